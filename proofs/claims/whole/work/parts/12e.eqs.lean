set_option maxRecDepth 100000 in
theorem e_175 {X : mc_X} : (∀ (x : Int32) (st : List Value) (G : mc_H), mc_ev X 175 0 [.int x] st G = mc_ev X 175 1 [.int x] (.int x :: st) G) ∧
  (∀ (x : Int32) (st : List Value) (G : mc_H), mc_ev X 175 1 [.int x] st G = mc_ev X 175 2 [.int x] (.int x :: st) G) ∧
  (∀ (ls st : List Value) (G : mc_H), mc_ev X 175 2 ls st G = mc_ev X 175 3 ls (.int 1 :: st) G) ∧
  (∀ (x y : Int32) (ls st : List Value) (G : mc_H), mc_ev X 175 3 ls (.int y :: .int x :: st) G = mc_ev X 175 4 ls (.int ((x.toUInt32 >>> (y.toUInt32 &&& Int32.toUInt32 31)).toInt32) :: st) G) ∧
  (∀ (ls st : List Value) (G : mc_H), mc_ev X 175 4 ls st G = mc_ev X 175 7 ls (.int 1431655765 :: st) G) ∧
  (∀ (x y : Int32) (ls st : List Value) (G : mc_H), mc_ev X 175 7 ls (.int y :: .int x :: st) G = mc_ev X 175 8 ls (.int (x &&& y) :: st) G) ∧
  (∀ (x y : Int32) (ls st : List Value) (G : mc_H), mc_ev X 175 8 ls (.int y :: .int x :: st) G = mc_ev X 175 9 ls (.int (x - y) :: st) G) ∧
  (∀ (v0 : Value) (x : Int32) (st : List Value) (G : mc_H), mc_ev X 175 9 [v0] (.int x :: st) G = mc_ev X 175 10 [.int x] st G) ∧
  (∀ (x : Int32) (st : List Value) (G : mc_H), mc_ev X 175 10 [.int x] st G = mc_ev X 175 11 [.int x] (.int x :: st) G) ∧
  (∀ (ls st : List Value) (G : mc_H), mc_ev X 175 11 ls st G = mc_ev X 175 14 ls (.int 858993459 :: st) G) ∧
  (∀ (x y : Int32) (ls st : List Value) (G : mc_H), mc_ev X 175 14 ls (.int y :: .int x :: st) G = mc_ev X 175 15 ls (.int (x &&& y) :: st) G) ∧
  (∀ (x : Int32) (st : List Value) (G : mc_H), mc_ev X 175 15 [.int x] st G = mc_ev X 175 16 [.int x] (.int x :: st) G) ∧
  (∀ (ls st : List Value) (G : mc_H), mc_ev X 175 16 ls st G = mc_ev X 175 17 ls (.int 2 :: st) G) ∧
  (∀ (x y : Int32) (ls st : List Value) (G : mc_H), mc_ev X 175 17 ls (.int y :: .int x :: st) G = mc_ev X 175 18 ls (.int ((x.toUInt32 >>> (y.toUInt32 &&& Int32.toUInt32 31)).toInt32) :: st) G) ∧
  (∀ (ls st : List Value) (G : mc_H), mc_ev X 175 18 ls st G = mc_ev X 175 21 ls (.int 858993459 :: st) G) ∧
  (∀ (x y : Int32) (ls st : List Value) (G : mc_H), mc_ev X 175 21 ls (.int y :: .int x :: st) G = mc_ev X 175 22 ls (.int (x &&& y) :: st) G) ∧
  (∀ (x y : Int32) (ls st : List Value) (G : mc_H), mc_ev X 175 22 ls (.int y :: .int x :: st) G = mc_ev X 175 23 ls (.int (x + y) :: st) G) ∧
  (∀ (v0 : Value) (x : Int32) (st : List Value) (G : mc_H), mc_ev X 175 23 [v0] (.int x :: st) G = mc_ev X 175 24 [.int x] st G) ∧
  (∀ (x : Int32) (st : List Value) (G : mc_H), mc_ev X 175 24 [.int x] st G = mc_ev X 175 25 [.int x] (.int x :: st) G) ∧
  (∀ (x : Int32) (st : List Value) (G : mc_H), mc_ev X 175 25 [.int x] st G = mc_ev X 175 26 [.int x] (.int x :: st) G) ∧
  (∀ (ls st : List Value) (G : mc_H), mc_ev X 175 26 ls st G = mc_ev X 175 27 ls (.int 4 :: st) G) ∧
  (∀ (x y : Int32) (ls st : List Value) (G : mc_H), mc_ev X 175 27 ls (.int y :: .int x :: st) G = mc_ev X 175 28 ls (.int ((x.toUInt32 >>> (y.toUInt32 &&& Int32.toUInt32 31)).toInt32) :: st) G) ∧
  (∀ (x y : Int32) (ls st : List Value) (G : mc_H), mc_ev X 175 28 ls (.int y :: .int x :: st) G = mc_ev X 175 29 ls (.int (x + y) :: st) G) ∧
  (∀ (ls st : List Value) (G : mc_H), mc_ev X 175 29 ls st G = mc_ev X 175 32 ls (.int 252645135 :: st) G) ∧
  (∀ (x y : Int32) (ls st : List Value) (G : mc_H), mc_ev X 175 32 ls (.int y :: .int x :: st) G = mc_ev X 175 33 ls (.int (x &&& y) :: st) G) ∧
  (∀ (v0 : Value) (x : Int32) (st : List Value) (G : mc_H), mc_ev X 175 33 [v0] (.int x :: st) G = mc_ev X 175 34 [.int x] st G) ∧
  (∀ (x : Int32) (st : List Value) (G : mc_H), mc_ev X 175 34 [.int x] st G = mc_ev X 175 35 [.int x] (.int x :: st) G) ∧
  (∀ (x : Int32) (st : List Value) (G : mc_H), mc_ev X 175 35 [.int x] st G = mc_ev X 175 36 [.int x] (.int x :: st) G) ∧
  (∀ (ls st : List Value) (G : mc_H), mc_ev X 175 36 ls st G = mc_ev X 175 38 ls (.int 8 :: st) G) ∧
  (∀ (x y : Int32) (ls st : List Value) (G : mc_H), mc_ev X 175 38 ls (.int y :: .int x :: st) G = mc_ev X 175 39 ls (.int ((x.toUInt32 >>> (y.toUInt32 &&& Int32.toUInt32 31)).toInt32) :: st) G) ∧
  (∀ (x y : Int32) (ls st : List Value) (G : mc_H), mc_ev X 175 39 ls (.int y :: .int x :: st) G = mc_ev X 175 40 ls (.int (x + y) :: st) G) ∧
  (∀ (v0 : Value) (x : Int32) (st : List Value) (G : mc_H), mc_ev X 175 40 [v0] (.int x :: st) G = mc_ev X 175 41 [.int x] st G) ∧
  (∀ (x : Int32) (st : List Value) (G : mc_H), mc_ev X 175 41 [.int x] st G = mc_ev X 175 42 [.int x] (.int x :: st) G) ∧
  (∀ (x : Int32) (st : List Value) (G : mc_H), mc_ev X 175 42 [.int x] st G = mc_ev X 175 43 [.int x] (.int x :: st) G) ∧
  (∀ (ls st : List Value) (G : mc_H), mc_ev X 175 43 ls st G = mc_ev X 175 45 ls (.int 16 :: st) G) ∧
  (∀ (x y : Int32) (ls st : List Value) (G : mc_H), mc_ev X 175 45 ls (.int y :: .int x :: st) G = mc_ev X 175 46 ls (.int ((x.toUInt32 >>> (y.toUInt32 &&& Int32.toUInt32 31)).toInt32) :: st) G) ∧
  (∀ (x y : Int32) (ls st : List Value) (G : mc_H), mc_ev X 175 46 ls (.int y :: .int x :: st) G = mc_ev X 175 47 ls (.int (x + y) :: st) G) ∧
  (∀ (v0 : Value) (x : Int32) (st : List Value) (G : mc_H), mc_ev X 175 47 [v0] (.int x :: st) G = mc_ev X 175 48 [.int x] st G) ∧
  (∀ (x : Int32) (st : List Value) (G : mc_H), mc_ev X 175 48 [.int x] st G = mc_ev X 175 49 [.int x] (.int x :: st) G) ∧
  (∀ (ls st : List Value) (G : mc_H), mc_ev X 175 49 ls st G = mc_ev X 175 51 ls (.int 63 :: st) G) ∧
  (∀ (x y : Int32) (ls st : List Value) (G : mc_H), mc_ev X 175 51 ls (.int y :: .int x :: st) G = mc_ev X 175 52 ls (.int (x &&& y) :: st) G) ∧
  (∀ (v : Int32) (ls : List Value) (G : mc_H), mc_ev X 175 52 ls [.int v] G = some (some (.int v), G)) := ⟨fun  x st G => ev_iload_n rfl rfl,
  fun  x st G => ev_iload_n rfl rfl,
  fun ls st G => ev_iconst rfl rfl,
  fun x y ls st G => ev_iushr rfl,
  fun ls st G => ev_ldc_w rfl rfl,
  fun x y ls st G => ev_iand rfl,
  fun x y ls st G => ev_isub rfl,
  fun v0 x st G => ev_istore_n (X := X) (k := 175) (pc := 9) (ls := [v0]) (st := st) (G := G) (j := 0) (x := x) rfl (Nat.le_of_ble_eq_true rfl),
  fun  x st G => ev_iload_n rfl rfl,
  fun ls st G => ev_ldc_w rfl rfl,
  fun x y ls st G => ev_iand rfl,
  fun  x st G => ev_iload_n rfl rfl,
  fun ls st G => ev_iconst rfl rfl,
  fun x y ls st G => ev_iushr rfl,
  fun ls st G => ev_ldc_w rfl rfl,
  fun x y ls st G => ev_iand rfl,
  fun x y ls st G => ev_iadd rfl,
  fun v0 x st G => ev_istore_n (X := X) (k := 175) (pc := 23) (ls := [v0]) (st := st) (G := G) (j := 0) (x := x) rfl (Nat.le_of_ble_eq_true rfl),
  fun  x st G => ev_iload_n rfl rfl,
  fun  x st G => ev_iload_n rfl rfl,
  fun ls st G => ev_iconst rfl rfl,
  fun x y ls st G => ev_iushr rfl,
  fun x y ls st G => ev_iadd rfl,
  fun ls st G => ev_ldc_w rfl rfl,
  fun x y ls st G => ev_iand rfl,
  fun v0 x st G => ev_istore_n (X := X) (k := 175) (pc := 33) (ls := [v0]) (st := st) (G := G) (j := 0) (x := x) rfl (Nat.le_of_ble_eq_true rfl),
  fun  x st G => ev_iload_n rfl rfl,
  fun  x st G => ev_iload_n rfl rfl,
  fun ls st G => ev_bipush rfl rfl,
  fun x y ls st G => ev_iushr rfl,
  fun x y ls st G => ev_iadd rfl,
  fun v0 x st G => ev_istore_n (X := X) (k := 175) (pc := 40) (ls := [v0]) (st := st) (G := G) (j := 0) (x := x) rfl (Nat.le_of_ble_eq_true rfl),
  fun  x st G => ev_iload_n rfl rfl,
  fun  x st G => ev_iload_n rfl rfl,
  fun ls st G => ev_bipush rfl rfl,
  fun x y ls st G => ev_iushr rfl,
  fun x y ls st G => ev_iadd rfl,
  fun v0 x st G => ev_istore_n (X := X) (k := 175) (pc := 47) (ls := [v0]) (st := st) (G := G) (j := 0) (x := x) rfl (Nat.le_of_ble_eq_true rfl),
  fun  x st G => ev_iload_n rfl rfl,
  fun ls st G => ev_bipush rfl rfl,
  fun x y ls st G => ev_iand rfl,
  fun v ls G => ev_ireturn rfl rfl⟩
set_option maxRecDepth 100000 in
theorem h_179_5 {X : mc_X} : ∀ (v0 v1 v3 : Value) (x : Int32) (st : List Value) (G : mc_H), mc_ev X 179 5 [v0, v1, .int x, v3] st G = mc_ev X 179 6 [v0, v1, .int x, v3] (.int x :: st) G := fun v0 v1 v3 x st G => ev_iload_n rfl rfl
set_option maxRecDepth 100000 in
theorem e_179 {X : mc_X} : (∀ (ls st : List Value) (G : mc_H), mc_ev X 179 0 ls st G = mc_ev X 179 1 ls (.int 0 :: st) G) ∧
  (∀ (v0 v1 v2 v3 : Value) (x : Int32) (st : List Value) (G : mc_H), mc_ev X 179 1 [v0, v1, v2, v3] (.int x :: st) G = mc_ev X 179 2 [v0, v1, .int x, v3] st G) ∧
  (∀ (v1 v2 v3 : Value) (x : Nat) (st : List Value) (G : mc_H), mc_ev X 179 2 [.ref x, v1, v2, v3] st G = mc_ev X 179 3 [.ref x, v1, v2, v3] (.ref x :: st) G) ∧
  (∀ (r : Value) (ls st : List Value) (G : mc_H), mc_ev X 179 3 ls (r :: st) G = (mc_len X G r).bind (fun x => mc_ev X 179 4 ls (.int x :: st) G)) ∧
  (∀ (v0 v1 v2 v3 : Value) (x : Int32) (st : List Value) (G : mc_H), mc_ev X 179 4 [v0, v1, v2, v3] (.int x :: st) G = mc_ev X 179 5 [v0, v1, v2, .int x] st G) ∧
  (∀ (v0 v1 v2 : Value) (x : Int32) (st : List Value) (G : mc_H), mc_ev X 179 6 [v0, v1, v2, .int x] st G = mc_ev X 179 7 [v0, v1, v2, .int x] (.int x :: st) G) ∧
  (∀ (x y : Int32) (ls st : List Value) (G : mc_H), mc_ev X 179 7 ls (.int y :: .int x :: st) G = if x < y then mc_ev X 179 10 ls st G else mc_ev X 179 20 ls st G) ∧
  (∀ (v1 v2 v3 : Value) (x : Nat) (st : List Value) (G : mc_H), mc_ev X 179 10 [.ref x, v1, v2, v3] st G = mc_ev X 179 11 [.ref x, v1, v2, v3] (.ref x :: st) G) ∧
  (∀ (v0 v1 v3 : Value) (x : Int32) (st : List Value) (G : mc_H), mc_ev X 179 11 [v0, v1, .int x, v3] st G = mc_ev X 179 12 [v0, v1, .int x, v3] (.int x :: st) G) ∧
  (∀ (v0 v2 v3 : Value) (x : Int32) (st : List Value) (G : mc_H), mc_ev X 179 12 [v0, .int x, v2, v3] st G = mc_ev X 179 13 [v0, .int x, v2, v3] (.int x :: st) G) ∧
  (∀ (x i : Int32) (r : Nat) (ls st : List Value) (G : mc_H), mc_ev X 179 13 ls (.int x :: .int i :: .ref r :: st) G = (mc_setA G 0 r i x).bind (fun G' => mc_ev X 179 14 ls st G')) ∧
  (∀ (v0 v1 v3 : Value) (x : Int32) (st : List Value) (G : mc_H), mc_ev X 179 14 [v0, v1, .int x, v3] st G = mc_ev X 179 17 [v0, v1, .int (x + 1), v3] st G) ∧
  (∀ (ls st : List Value) (G : mc_H), mc_ev X 179 17 ls st G = mc_ev X 179 5 ls st G) ∧
  (∀ (ls : List Value) (G : mc_H), mc_ev X 179 20 ls [] G = some (none, G)) := ⟨fun ls st G => ev_iconst rfl rfl,
  fun v0 v1 v2 v3 x st G => ev_istore_n (X := X) (k := 179) (pc := 1) (ls := [v0, v1, v2, v3]) (st := st) (G := G) (j := 2) (x := x) rfl (Nat.le_of_ble_eq_true rfl),
  fun v1 v2 v3 x st G => ev_aload_n rfl rfl,
  fun r ls st G => ev_arraylength rfl,
  fun v0 v1 v2 v3 x st G => ev_istore_n (X := X) (k := 179) (pc := 4) (ls := [v0, v1, v2, v3]) (st := st) (G := G) (j := 3) (x := x) rfl (Nat.le_of_ble_eq_true rfl),
  fun v0 v1 v2 x st G => ev_iload_n rfl rfl,
  fun x y ls st G => ev_br rfl rfl,
  fun v1 v2 v3 x st G => ev_aload_n rfl rfl,
  fun v0 v1 v3 x st G => ev_iload_n rfl rfl,
  fun v0 v2 v3 x st G => ev_iload_n rfl rfl,
  fun x i r ls st G => ev_iastore rfl,
  fun v0 v1 v3 x st G => ev_iinc (X := X) (k := 179) (pc := 14) (ls := [v0, v1, .int x, v3]) (st := st) (G := G) (j := 2) (n := 1) (x := x) (v := 1) rfl rfl rfl,
  fun ls st G => ev_goto rfl rfl,
  fun ls G => ev_return rfl rfl⟩
set_option maxRecDepth 100000 in
theorem h_180_18 {X : mc_X} : ∀ (v0 v1 v2 : Value) (x : Int32) (st : List Value) (G : mc_H), mc_ev X 180 18 [v0, v1, v2, .int x] st G = mc_ev X 180 19 [v0, v1, v2, .int x] (.int x :: st) G := fun v0 v1 v2 x st G => ev_iload_n rfl rfl
set_option maxRecDepth 100000 in
theorem e_180_0 {X : mc_X} : (∀ (ls st : List Value) (G : mc_H), mc_ev X 180 0 ls st G = mc_ev X 180 3 ls (.ref G.length :: st) (G ++ [.inr (.inr (7, mc_df 7))])) ∧
  (∀ (x : Nat) (ls st : List Value) (G : mc_H), mc_ev X 180 3 ls (.ref x :: st) G = mc_ev X 180 4 ls (.ref x :: .ref x :: st) G) ∧
  (∀ (r : Nat) (ls st : List Value) (G : mc_H), st.length ≤ 4 → mc_ev X 180 4 ls (.ref r :: st) G = (mc_ev X 60 0 [.ref r, .null] [] G).bind (fun q => mc_ev X 180 7 ls (q.1.toList ++ st) q.2)) ∧
  (∀ (v0 v1 v2 v3 : Value) (x : Nat) (st : List Value) (G : mc_H), mc_ev X 180 7 [v0, v1, v2, v3] (.ref x :: st) G = mc_ev X 180 8 [v0, .ref x, v2, v3] st G) ∧
  (∀ (ls st : List Value) (G : mc_H), mc_ev X 180 8 ls st G = mc_ev X 180 11 ls (.ref G.length :: st) (G ++ [.inr (.inr (8, mc_df 8))])) ∧
  (∀ (x : Nat) (ls st : List Value) (G : mc_H), mc_ev X 180 11 ls (.ref x :: st) G = mc_ev X 180 12 ls (.ref x :: .ref x :: st) G) ∧
  (∀ (r : Nat) (ls st : List Value) (G : mc_H), st.length ≤ 4 → mc_ev X 180 12 ls (.ref r :: st) G = (mc_ev X 111 0 [.ref r] [] G).bind (fun q => mc_ev X 180 15 ls (q.1.toList ++ st) q.2)) ∧
  (∀ (v0 v1 v2 v3 : Value) (x : Nat) (st : List Value) (G : mc_H), mc_ev X 180 15 [v0, v1, v2, v3] (.ref x :: st) G = mc_ev X 180 16 [v0, v1, .ref x, v3] st G) ∧
  (∀ (ls st : List Value) (G : mc_H), mc_ev X 180 16 ls st G = mc_ev X 180 17 ls (.int 0 :: st) G) ∧
  (∀ (v0 v1 v2 v3 : Value) (x : Int32) (st : List Value) (G : mc_H), mc_ev X 180 17 [v0, v1, v2, v3] (.int x :: st) G = mc_ev X 180 18 [v0, v1, v2, .int x] st G) ∧
  (∀ (v1 v2 v3 : Value) (x : UInt32) (st : List Value) (G : mc_H), mc_ev X 180 19 [.float x, v1, v2, v3] st G = mc_ev X 180 20 [.float x, v1, v2, v3] (.float x :: st) G) ∧
  (∀ (r : Value) (ls st : List Value) (G : mc_H), mc_ev X 180 20 ls (r :: st) G = (mc_len X G r).bind (fun x => mc_ev X 180 21 ls (.int x :: st) G)) ∧
  (∀ (ls st : List Value) (G : mc_H), mc_ev X 180 21 ls st G = mc_ev X 180 23 ls (.int 8 :: st) G) ∧
  (∀ (x y : Int32) (ls st : List Value) (G : mc_H), mc_ev X 180 23 ls (.int y :: .int x :: st) G = mc_ev X 180 24 ls (.int (x - y) :: st) G) ∧
  (∀ (x y : Int32) (ls st : List Value) (G : mc_H), mc_ev X 180 24 ls (.int y :: .int x :: st) G = if y < x then mc_ev X 180 1230 ls st G else mc_ev X 180 27 ls st G) ∧
  (∀ (v1 v2 v3 : Value) (x : UInt32) (st : List Value) (G : mc_H), mc_ev X 180 27 [.float x, v1, v2, v3] st G = mc_ev X 180 28 [.float x, v1, v2, v3] (.float x :: st) G) ∧
  (∀ (v0 v1 v2 : Value) (x : Int32) (st : List Value) (G : mc_H), mc_ev X 180 28 [v0, v1, v2, .int x] st G = mc_ev X 180 29 [v0, v1, v2, .int x] (.int x :: st) G) ∧
  (∀ (i : Int32) (r : Value) (ls st : List Value) (G : mc_H), mc_ev X 180 29 ls (.int i :: r :: st) G = (mc_getA X G 0 r i).bind (fun x => mc_ev X 180 30 ls (.int x :: st) G)) ∧
  (∀ (ls st : List Value) (G : mc_H), mc_ev X 180 30 ls st G = mc_ev X 180 32 ls (.int 63 :: st) G) ∧
  (∀ (x y : Int32) (ls st : List Value) (G : mc_H), mc_ev X 180 32 ls (.int y :: .int x :: st) G = mc_ev X 180 33 ls (.int (x &&& y) :: st) G) ∧
  (∀ (ls st : List Value) (G : mc_H), mc_ev X 180 33 ls (.int 0 :: st) G = mc_ev X 180 188 ls st G) ∧
  (∀ (ls st : List Value) (G : mc_H), mc_ev X 180 33 ls (.int 1 :: st) G = mc_ev X 180 221 ls st G) ∧
  (∀ (ls st : List Value) (G : mc_H), mc_ev X 180 33 ls (.int 2 :: st) G = mc_ev X 180 254 ls st G) ∧
  (∀ (ls st : List Value) (G : mc_H), mc_ev X 180 33 ls (.int 3 :: st) G = mc_ev X 180 287 ls st G) ∧
  (∀ (ls st : List Value) (G : mc_H), mc_ev X 180 33 ls (.int 4 :: st) G = mc_ev X 180 336 ls st G) ∧
  (∀ (ls st : List Value) (G : mc_H), mc_ev X 180 33 ls (.int 5 :: st) G = mc_ev X 180 359 ls st G) ∧
  (∀ (ls st : List Value) (G : mc_H), mc_ev X 180 33 ls (.int 6 :: st) G = mc_ev X 180 382 ls st G) ∧
  (∀ (ls st : List Value) (G : mc_H), mc_ev X 180 33 ls (.int 7 :: st) G = mc_ev X 180 415 ls st G) ∧
  (∀ (ls st : List Value) (G : mc_H), mc_ev X 180 33 ls (.int 8 :: st) G = mc_ev X 180 438 ls st G) ∧
  (∀ (ls st : List Value) (G : mc_H), mc_ev X 180 33 ls (.int 9 :: st) G = mc_ev X 180 451 ls st G) ∧
  (∀ (ls st : List Value) (G : mc_H), mc_ev X 180 33 ls (.int 10 :: st) G = mc_ev X 180 464 ls st G) ∧
  (∀ (ls st : List Value) (G : mc_H), mc_ev X 180 33 ls (.int 11 :: st) G = mc_ev X 180 487 ls st G) ∧
  (∀ (ls st : List Value) (G : mc_H), mc_ev X 180 33 ls (.int 12 :: st) G = mc_ev X 180 510 ls st G) ∧
  (∀ (ls st : List Value) (G : mc_H), mc_ev X 180 33 ls (.int 13 :: st) G = mc_ev X 180 543 ls st G) ∧
  (∀ (ls st : List Value) (G : mc_H), mc_ev X 180 33 ls (.int 14 :: st) G = mc_ev X 180 576 ls st G) ∧
  (∀ (ls st : List Value) (G : mc_H), mc_ev X 180 33 ls (.int 15 :: st) G = mc_ev X 180 589 ls st G) ∧
  (∀ (ls st : List Value) (G : mc_H), mc_ev X 180 33 ls (.int 16 :: st) G = mc_ev X 180 612 ls st G) ∧
  (∀ (ls st : List Value) (G : mc_H), mc_ev X 180 33 ls (.int 17 :: st) G = mc_ev X 180 645 ls st G) ∧
  (∀ (ls st : List Value) (G : mc_H), mc_ev X 180 33 ls (.int 18 :: st) G = mc_ev X 180 658 ls st G) ∧
  (∀ (ls st : List Value) (G : mc_H), mc_ev X 180 33 ls (.int 19 :: st) G = mc_ev X 180 681 ls st G) ∧
  (∀ (ls st : List Value) (G : mc_H), mc_ev X 180 33 ls (.int 20 :: st) G = mc_ev X 180 694 ls st G) ∧
  (∀ (ls st : List Value) (G : mc_H), mc_ev X 180 33 ls (.int 21 :: st) G = mc_ev X 180 707 ls st G) ∧
  (∀ (ls st : List Value) (G : mc_H), mc_ev X 180 33 ls (.int 22 :: st) G = mc_ev X 180 730 ls st G) ∧
  (∀ (ls st : List Value) (G : mc_H), mc_ev X 180 33 ls (.int 23 :: st) G = mc_ev X 180 753 ls st G) ∧
  (∀ (ls st : List Value) (G : mc_H), mc_ev X 180 33 ls (.int 24 :: st) G = mc_ev X 180 776 ls st G) ∧
  (∀ (ls st : List Value) (G : mc_H), mc_ev X 180 33 ls (.int 25 :: st) G = mc_ev X 180 809 ls st G) ∧
  (∀ (ls st : List Value) (G : mc_H), mc_ev X 180 33 ls (.int 26 :: st) G = mc_ev X 180 832 ls st G) ∧
  (∀ (ls st : List Value) (G : mc_H), mc_ev X 180 33 ls (.int 27 :: st) G = mc_ev X 180 875 ls st G) ∧
  (∀ (ls st : List Value) (G : mc_H), mc_ev X 180 33 ls (.int 28 :: st) G = mc_ev X 180 918 ls st G) ∧
  (∀ (ls st : List Value) (G : mc_H), mc_ev X 180 33 ls (.int 29 :: st) G = mc_ev X 180 981 ls st G) ∧
  (∀ (ls st : List Value) (G : mc_H), mc_ev X 180 33 ls (.int 30 :: st) G = mc_ev X 180 1034 ls st G) ∧
  (∀ (ls st : List Value) (G : mc_H), mc_ev X 180 33 ls (.int 31 :: st) G = mc_ev X 180 1121 ls st G) ∧
  (∀ (ls st : List Value) (G : mc_H), mc_ev X 180 33 ls (.int 32 :: st) G = mc_ev X 180 1174 ls st G) ∧
  (∀ (ls st : List Value) (G : mc_H), mc_ev X 180 33 ls (.int 33 :: st) G = mc_ev X 180 1197 ls st G) ∧
  (∀ (ls st : List Value) (G : mc_H), mc_ev X 180 33 ls (.int 34 :: st) G = mc_ev X 180 1211 ls st G) ∧
  (∀ (x : Int32) (ls st : List Value) (G : mc_H), (x.toInt < 0 ∨ 34 < x.toInt) → mc_ev X 180 33 ls (.int x :: st) G = mc_ev X 180 1224 ls st G) ∧
  (∀ (v0 v2 v3 : Value) (x : Nat) (st : List Value) (G : mc_H), mc_ev X 180 188 [v0, .ref x, v2, v3] st G = mc_ev X 180 189 [v0, .ref x, v2, v3] (.ref x :: st) G) ∧
  (∀ (v1 v2 v3 : Value) (x : UInt32) (st : List Value) (G : mc_H), mc_ev X 180 189 [.float x, v1, v2, v3] st G = mc_ev X 180 190 [.float x, v1, v2, v3] (.float x :: st) G) ∧
  (∀ (v0 v1 v2 : Value) (x : Int32) (st : List Value) (G : mc_H), mc_ev X 180 190 [v0, v1, v2, .int x] st G = mc_ev X 180 191 [v0, v1, v2, .int x] (.int x :: st) G) ∧
  (∀ (ls st : List Value) (G : mc_H), mc_ev X 180 191 ls st G = mc_ev X 180 192 ls (.int 1 :: st) G) := ⟨fun ls st G => ev_new rfl,
  fun x ls st G => ev_dup rfl,
  fun r ls st G hr => ev_spec (As := []) rfl (by decide) rfl rfl rfl rfl hr,
  fun v0 v1 v2 v3 x st G => ev_astore_n (X := X) (k := 180) (pc := 7) (ls := [v0, v1, v2, v3]) (st := st) (G := G) (j := 1) (x := x) rfl (Nat.le_of_ble_eq_true rfl),
  fun ls st G => ev_new rfl,
  fun x ls st G => ev_dup rfl,
  fun r ls st G hr => ev_spec (As := []) rfl (by decide) rfl rfl rfl rfl hr,
  fun v0 v1 v2 v3 x st G => ev_astore_n (X := X) (k := 180) (pc := 15) (ls := [v0, v1, v2, v3]) (st := st) (G := G) (j := 2) (x := x) rfl (Nat.le_of_ble_eq_true rfl),
  fun ls st G => ev_iconst rfl rfl,
  fun v0 v1 v2 v3 x st G => ev_istore_n (X := X) (k := 180) (pc := 17) (ls := [v0, v1, v2, v3]) (st := st) (G := G) (j := 3) (x := x) rfl (Nat.le_of_ble_eq_true rfl),
  fun v1 v2 v3 x st G => ev_aload_nF rfl rfl,
  fun r ls st G => ev_arraylength rfl,
  fun ls st G => ev_bipush rfl rfl,
  fun x y ls st G => ev_isub rfl,
  fun x y ls st G => ev_br rfl rfl,
  fun v1 v2 v3 x st G => ev_aload_nF rfl rfl,
  fun v0 v1 v2 x st G => ev_iload_n rfl rfl,
  fun i r ls st G => ev_iaload rfl,
  fun ls st G => ev_bipush rfl rfl,
  fun x y ls st G => ev_iand rfl,
  fun ls st G => ev_tabIn rfl (by decide) rfl (by decide) rfl,
  fun ls st G => ev_tabIn rfl (by decide) rfl (by decide) rfl,
  fun ls st G => ev_tabIn rfl (by decide) rfl (by decide) rfl,
  fun ls st G => ev_tabIn rfl (by decide) rfl (by decide) rfl,
  fun ls st G => ev_tabIn rfl (by decide) rfl (by decide) rfl,
  fun ls st G => ev_tabIn rfl (by decide) rfl (by decide) rfl,
  fun ls st G => ev_tabIn rfl (by decide) rfl (by decide) rfl,
  fun ls st G => ev_tabIn rfl (by decide) rfl (by decide) rfl,
  fun ls st G => ev_tabIn rfl (by decide) rfl (by decide) rfl,
  fun ls st G => ev_tabIn rfl (by decide) rfl (by decide) rfl,
  fun ls st G => ev_tabIn rfl (by decide) rfl (by decide) rfl,
  fun ls st G => ev_tabIn rfl (by decide) rfl (by decide) rfl,
  fun ls st G => ev_tabIn rfl (by decide) rfl (by decide) rfl,
  fun ls st G => ev_tabIn rfl (by decide) rfl (by decide) rfl,
  fun ls st G => ev_tabIn rfl (by decide) rfl (by decide) rfl,
  fun ls st G => ev_tabIn rfl (by decide) rfl (by decide) rfl,
  fun ls st G => ev_tabIn rfl (by decide) rfl (by decide) rfl,
  fun ls st G => ev_tabIn rfl (by decide) rfl (by decide) rfl,
  fun ls st G => ev_tabIn rfl (by decide) rfl (by decide) rfl,
  fun ls st G => ev_tabIn rfl (by decide) rfl (by decide) rfl,
  fun ls st G => ev_tabIn rfl (by decide) rfl (by decide) rfl,
  fun ls st G => ev_tabIn rfl (by decide) rfl (by decide) rfl,
  fun ls st G => ev_tabIn rfl (by decide) rfl (by decide) rfl,
  fun ls st G => ev_tabIn rfl (by decide) rfl (by decide) rfl,
  fun ls st G => ev_tabIn rfl (by decide) rfl (by decide) rfl,
  fun ls st G => ev_tabIn rfl (by decide) rfl (by decide) rfl,
  fun ls st G => ev_tabIn rfl (by decide) rfl (by decide) rfl,
  fun ls st G => ev_tabIn rfl (by decide) rfl (by decide) rfl,
  fun ls st G => ev_tabIn rfl (by decide) rfl (by decide) rfl,
  fun ls st G => ev_tabIn rfl (by decide) rfl (by decide) rfl,
  fun ls st G => ev_tabIn rfl (by decide) rfl (by decide) rfl,
  fun ls st G => ev_tabIn rfl (by decide) rfl (by decide) rfl,
  fun ls st G => ev_tabIn rfl (by decide) rfl (by decide) rfl,
  fun ls st G => ev_tabIn rfl (by decide) rfl (by decide) rfl,
  fun ls st G => ev_tabIn rfl (by decide) rfl (by decide) rfl,
  fun x ls st G hx => ev_tabOut rfl rfl hx,
  fun v0 v2 v3 x st G => ev_aload_n rfl rfl,
  fun v1 v2 v3 x st G => ev_aload_nF rfl rfl,
  fun v0 v1 v2 x st G => ev_iload_n rfl rfl,
  fun ls st G => ev_iconst rfl rfl⟩
set_option maxRecDepth 100000 in
theorem e_180_1 {X : mc_X} : (∀ (x y : Int32) (ls st : List Value) (G : mc_H), mc_ev X 180 192 ls (.int y :: .int x :: st) G = mc_ev X 180 193 ls (.int (x + y) :: st) G) ∧
  (∀ (i : Int32) (r : Value) (ls st : List Value) (G : mc_H), mc_ev X 180 193 ls (.int i :: r :: st) G = (mc_getA X G 0 r i).bind (fun x => mc_ev X 180 194 ls (.int x :: st) G)) ∧
  (∀ (v1 v2 v3 : Value) (x : UInt32) (st : List Value) (G : mc_H), mc_ev X 180 194 [.float x, v1, v2, v3] st G = mc_ev X 180 195 [.float x, v1, v2, v3] (.float x :: st) G) ∧
  (∀ (v0 v1 v2 : Value) (x : Int32) (st : List Value) (G : mc_H), mc_ev X 180 195 [v0, v1, v2, .int x] st G = mc_ev X 180 196 [v0, v1, v2, .int x] (.int x :: st) G) ∧
  (∀ (ls st : List Value) (G : mc_H), mc_ev X 180 196 ls st G = mc_ev X 180 197 ls (.int 2 :: st) G) ∧
  (∀ (x y : Int32) (ls st : List Value) (G : mc_H), mc_ev X 180 197 ls (.int y :: .int x :: st) G = mc_ev X 180 198 ls (.int (x + y) :: st) G) ∧
  (∀ (i : Int32) (r : Value) (ls st : List Value) (G : mc_H), mc_ev X 180 198 ls (.int i :: r :: st) G = (mc_getA X G 0 r i).bind (fun x => mc_ev X 180 199 ls (.int x :: st) G)) ∧
  (∀ (a0 : Int32) (a1 : Int32) (r : Nat) (ls st : List Value) (G : mc_H), st.length ≤ 4 → mc_cls G r = some 7 → mc_ev X 180 199 ls (.int a1 :: .int a0 :: .ref r :: st) G = (mc_ev X 61 0 [.ref r, .int a0, .int a1] [] G).bind (fun q => mc_ev X 180 202 ls (q.1.toList ++ st) q.2)) ∧
  (∀ (v0 v1 v3 : Value) (x : Nat) (st : List Value) (G : mc_H), mc_ev X 180 202 [v0, v1, .ref x, v3] st G = mc_ev X 180 203 [v0, v1, .ref x, v3] (.ref x :: st) G) ∧
  (∀ (v1 v2 v3 : Value) (x : UInt32) (st : List Value) (G : mc_H), mc_ev X 180 203 [.float x, v1, v2, v3] st G = mc_ev X 180 204 [.float x, v1, v2, v3] (.float x :: st) G) ∧
  (∀ (v0 v1 v2 : Value) (x : Int32) (st : List Value) (G : mc_H), mc_ev X 180 204 [v0, v1, v2, .int x] st G = mc_ev X 180 205 [v0, v1, v2, .int x] (.int x :: st) G) ∧
  (∀ (ls st : List Value) (G : mc_H), mc_ev X 180 205 ls st G = mc_ev X 180 206 ls (.int 1 :: st) G) ∧
  (∀ (x y : Int32) (ls st : List Value) (G : mc_H), mc_ev X 180 206 ls (.int y :: .int x :: st) G = mc_ev X 180 207 ls (.int (x + y) :: st) G) ∧
  (∀ (i : Int32) (r : Value) (ls st : List Value) (G : mc_H), mc_ev X 180 207 ls (.int i :: r :: st) G = (mc_getA X G 0 r i).bind (fun x => mc_ev X 180 208 ls (.int x :: st) G)) ∧
  (∀ (v1 v2 v3 : Value) (x : UInt32) (st : List Value) (G : mc_H), mc_ev X 180 208 [.float x, v1, v2, v3] st G = mc_ev X 180 209 [.float x, v1, v2, v3] (.float x :: st) G) ∧
  (∀ (v0 v1 v2 : Value) (x : Int32) (st : List Value) (G : mc_H), mc_ev X 180 209 [v0, v1, v2, .int x] st G = mc_ev X 180 210 [v0, v1, v2, .int x] (.int x :: st) G) ∧
  (∀ (ls st : List Value) (G : mc_H), mc_ev X 180 210 ls st G = mc_ev X 180 211 ls (.int 2 :: st) G) ∧
  (∀ (x y : Int32) (ls st : List Value) (G : mc_H), mc_ev X 180 211 ls (.int y :: .int x :: st) G = mc_ev X 180 212 ls (.int (x + y) :: st) G) ∧
  (∀ (i : Int32) (r : Value) (ls st : List Value) (G : mc_H), mc_ev X 180 212 ls (.int i :: r :: st) G = (mc_getA X G 0 r i).bind (fun x => mc_ev X 180 213 ls (.int x :: st) G)) ∧
  (∀ (a0 : Int32) (a1 : Int32) (r : Nat) (ls st : List Value) (G : mc_H), st.length ≤ 4 → mc_cls G r = some 8 → mc_ev X 180 213 ls (.int a1 :: .int a0 :: .ref r :: st) G = (mc_ev X 133 0 [.ref r, .int a0, .int a1, .null] [] G).bind (fun q => mc_ev X 180 216 ls (q.1.toList ++ st) q.2)) ∧
  (∀ (x y : Int32) (ls st : List Value) (G : mc_H), mc_ev X 180 216 ls (.int y :: .int x :: st) G = if x = y then mc_ev X 180 1224 ls st G else mc_ev X 180 219 ls st G) ∧
  (∀ (ls st : List Value) (G : mc_H), mc_ev X 180 219 ls st G = mc_ev X 180 220 ls (.int 0 :: st) G) ∧
  (∀ (v : Int32) (ls : List Value) (G : mc_H), (v = 0 ∨ v = 1) → mc_ev X 180 220 ls [.int v] G = some (some (.int v), G)) ∧
  (∀ (v0 v2 v3 : Value) (x : Nat) (st : List Value) (G : mc_H), mc_ev X 180 221 [v0, .ref x, v2, v3] st G = mc_ev X 180 222 [v0, .ref x, v2, v3] (.ref x :: st) G) ∧
  (∀ (v1 v2 v3 : Value) (x : UInt32) (st : List Value) (G : mc_H), mc_ev X 180 222 [.float x, v1, v2, v3] st G = mc_ev X 180 223 [.float x, v1, v2, v3] (.float x :: st) G) ∧
  (∀ (v0 v1 v2 : Value) (x : Int32) (st : List Value) (G : mc_H), mc_ev X 180 223 [v0, v1, v2, .int x] st G = mc_ev X 180 224 [v0, v1, v2, .int x] (.int x :: st) G) ∧
  (∀ (ls st : List Value) (G : mc_H), mc_ev X 180 224 ls st G = mc_ev X 180 225 ls (.int 1 :: st) G) ∧
  (∀ (x y : Int32) (ls st : List Value) (G : mc_H), mc_ev X 180 225 ls (.int y :: .int x :: st) G = mc_ev X 180 226 ls (.int (x + y) :: st) G) ∧
  (∀ (i : Int32) (r : Value) (ls st : List Value) (G : mc_H), mc_ev X 180 226 ls (.int i :: r :: st) G = (mc_getA X G 0 r i).bind (fun x => mc_ev X 180 227 ls (.int x :: st) G)) ∧
  (∀ (v1 v2 v3 : Value) (x : UInt32) (st : List Value) (G : mc_H), mc_ev X 180 227 [.float x, v1, v2, v3] st G = mc_ev X 180 228 [.float x, v1, v2, v3] (.float x :: st) G) ∧
  (∀ (v0 v1 v2 : Value) (x : Int32) (st : List Value) (G : mc_H), mc_ev X 180 228 [v0, v1, v2, .int x] st G = mc_ev X 180 229 [v0, v1, v2, .int x] (.int x :: st) G) ∧
  (∀ (ls st : List Value) (G : mc_H), mc_ev X 180 229 ls st G = mc_ev X 180 230 ls (.int 2 :: st) G) ∧
  (∀ (x y : Int32) (ls st : List Value) (G : mc_H), mc_ev X 180 230 ls (.int y :: .int x :: st) G = mc_ev X 180 231 ls (.int (x + y) :: st) G) ∧
  (∀ (i : Int32) (r : Value) (ls st : List Value) (G : mc_H), mc_ev X 180 231 ls (.int i :: r :: st) G = (mc_getA X G 0 r i).bind (fun x => mc_ev X 180 232 ls (.int x :: st) G)) ∧
  (∀ (a0 : Int32) (a1 : Int32) (r : Nat) (ls st : List Value) (G : mc_H), st.length ≤ 4 → mc_cls G r = some 7 → mc_ev X 180 232 ls (.int a1 :: .int a0 :: .ref r :: st) G = (mc_ev X 62 0 [.ref r, .int a0, .int a1, .null] [] G).bind (fun q => mc_ev X 180 235 ls (q.1.toList ++ st) q.2)) ∧
  (∀ (v0 v1 v3 : Value) (x : Nat) (st : List Value) (G : mc_H), mc_ev X 180 235 [v0, v1, .ref x, v3] st G = mc_ev X 180 236 [v0, v1, .ref x, v3] (.ref x :: st) G) ∧
  (∀ (v1 v2 v3 : Value) (x : UInt32) (st : List Value) (G : mc_H), mc_ev X 180 236 [.float x, v1, v2, v3] st G = mc_ev X 180 237 [.float x, v1, v2, v3] (.float x :: st) G) ∧
  (∀ (v0 v1 v2 : Value) (x : Int32) (st : List Value) (G : mc_H), mc_ev X 180 237 [v0, v1, v2, .int x] st G = mc_ev X 180 238 [v0, v1, v2, .int x] (.int x :: st) G) ∧
  (∀ (ls st : List Value) (G : mc_H), mc_ev X 180 238 ls st G = mc_ev X 180 239 ls (.int 1 :: st) G) ∧
  (∀ (x y : Int32) (ls st : List Value) (G : mc_H), mc_ev X 180 239 ls (.int y :: .int x :: st) G = mc_ev X 180 240 ls (.int (x + y) :: st) G) ∧
  (∀ (i : Int32) (r : Value) (ls st : List Value) (G : mc_H), mc_ev X 180 240 ls (.int i :: r :: st) G = (mc_getA X G 0 r i).bind (fun x => mc_ev X 180 241 ls (.int x :: st) G)) ∧
  (∀ (v1 v2 v3 : Value) (x : UInt32) (st : List Value) (G : mc_H), mc_ev X 180 241 [.float x, v1, v2, v3] st G = mc_ev X 180 242 [.float x, v1, v2, v3] (.float x :: st) G) ∧
  (∀ (v0 v1 v2 : Value) (x : Int32) (st : List Value) (G : mc_H), mc_ev X 180 242 [v0, v1, v2, .int x] st G = mc_ev X 180 243 [v0, v1, v2, .int x] (.int x :: st) G) ∧
  (∀ (ls st : List Value) (G : mc_H), mc_ev X 180 243 ls st G = mc_ev X 180 244 ls (.int 2 :: st) G) ∧
  (∀ (x y : Int32) (ls st : List Value) (G : mc_H), mc_ev X 180 244 ls (.int y :: .int x :: st) G = mc_ev X 180 245 ls (.int (x + y) :: st) G) ∧
  (∀ (i : Int32) (r : Value) (ls st : List Value) (G : mc_H), mc_ev X 180 245 ls (.int i :: r :: st) G = (mc_getA X G 0 r i).bind (fun x => mc_ev X 180 246 ls (.int x :: st) G)) ∧
  (∀ (a0 : Int32) (a1 : Int32) (r : Nat) (ls st : List Value) (G : mc_H), st.length ≤ 4 → mc_cls G r = some 8 → mc_ev X 180 246 ls (.int a1 :: .int a0 :: .ref r :: st) G = (mc_ev X 134 0 [.ref r, .int a0, .int a1, .null, .null, .null] [] G).bind (fun q => mc_ev X 180 249 ls (q.1.toList ++ st) q.2)) ∧
  (∀ (x y : Int32) (ls st : List Value) (G : mc_H), mc_ev X 180 249 ls (.int y :: .int x :: st) G = if x = y then mc_ev X 180 1224 ls st G else mc_ev X 180 252 ls st G) ∧
  (∀ (ls st : List Value) (G : mc_H), mc_ev X 180 252 ls st G = mc_ev X 180 253 ls (.int 0 :: st) G) ∧
  (∀ (v : Int32) (ls : List Value) (G : mc_H), (v = 0 ∨ v = 1) → mc_ev X 180 253 ls [.int v] G = some (some (.int v), G)) ∧
  (∀ (v0 v2 v3 : Value) (x : Nat) (st : List Value) (G : mc_H), mc_ev X 180 254 [v0, .ref x, v2, v3] st G = mc_ev X 180 255 [v0, .ref x, v2, v3] (.ref x :: st) G) ∧
  (∀ (v1 v2 v3 : Value) (x : UInt32) (st : List Value) (G : mc_H), mc_ev X 180 255 [.float x, v1, v2, v3] st G = mc_ev X 180 256 [.float x, v1, v2, v3] (.float x :: st) G) ∧
  (∀ (v0 v1 v2 : Value) (x : Int32) (st : List Value) (G : mc_H), mc_ev X 180 256 [v0, v1, v2, .int x] st G = mc_ev X 180 257 [v0, v1, v2, .int x] (.int x :: st) G) ∧
  (∀ (ls st : List Value) (G : mc_H), mc_ev X 180 257 ls st G = mc_ev X 180 258 ls (.int 1 :: st) G) ∧
  (∀ (x y : Int32) (ls st : List Value) (G : mc_H), mc_ev X 180 258 ls (.int y :: .int x :: st) G = mc_ev X 180 259 ls (.int (x + y) :: st) G) ∧
  (∀ (i : Int32) (r : Value) (ls st : List Value) (G : mc_H), mc_ev X 180 259 ls (.int i :: r :: st) G = (mc_getA X G 0 r i).bind (fun x => mc_ev X 180 260 ls (.int x :: st) G)) ∧
  (∀ (v1 v2 v3 : Value) (x : UInt32) (st : List Value) (G : mc_H), mc_ev X 180 260 [.float x, v1, v2, v3] st G = mc_ev X 180 261 [.float x, v1, v2, v3] (.float x :: st) G) ∧
  (∀ (v0 v1 v2 : Value) (x : Int32) (st : List Value) (G : mc_H), mc_ev X 180 261 [v0, v1, v2, .int x] st G = mc_ev X 180 262 [v0, v1, v2, .int x] (.int x :: st) G) ∧
  (∀ (ls st : List Value) (G : mc_H), mc_ev X 180 262 ls st G = mc_ev X 180 263 ls (.int 2 :: st) G) ∧
  (∀ (x y : Int32) (ls st : List Value) (G : mc_H), mc_ev X 180 263 ls (.int y :: .int x :: st) G = mc_ev X 180 264 ls (.int (x + y) :: st) G) := ⟨fun x y ls st G => ev_iadd rfl,
  fun i r ls st G => ev_iaload rfl,
  fun v1 v2 v3 x st G => ev_aload_nF rfl rfl,
  fun v0 v1 v2 x st G => ev_iload_n rfl rfl,
  fun ls st G => ev_iconst rfl rfl,
  fun x y ls st G => ev_iadd rfl,
  fun i r ls st G => ev_iaload rfl,
  fun a0 a1 r ls st G hr hG => ev_virt (As := [.int a0, .int a1]) rfl rfl rfl rfl rfl rfl hr hG,
  fun v0 v1 v3 x st G => ev_aload_n rfl rfl,
  fun v1 v2 v3 x st G => ev_aload_nF rfl rfl,
  fun v0 v1 v2 x st G => ev_iload_n rfl rfl,
  fun ls st G => ev_iconst rfl rfl,
  fun x y ls st G => ev_iadd rfl,
  fun i r ls st G => ev_iaload rfl,
  fun v1 v2 v3 x st G => ev_aload_nF rfl rfl,
  fun v0 v1 v2 x st G => ev_iload_n rfl rfl,
  fun ls st G => ev_iconst rfl rfl,
  fun x y ls st G => ev_iadd rfl,
  fun i r ls st G => ev_iaload rfl,
  fun a0 a1 r ls st G hr hG => ev_virt (As := [.int a0, .int a1]) rfl rfl rfl rfl rfl rfl hr hG,
  fun x y ls st G => ev_br rfl rfl,
  fun ls st G => ev_iconst rfl rfl,
  fun v ls G hv => ev_zreturn rfl rfl hv,
  fun v0 v2 v3 x st G => ev_aload_n rfl rfl,
  fun v1 v2 v3 x st G => ev_aload_nF rfl rfl,
  fun v0 v1 v2 x st G => ev_iload_n rfl rfl,
  fun ls st G => ev_iconst rfl rfl,
  fun x y ls st G => ev_iadd rfl,
  fun i r ls st G => ev_iaload rfl,
  fun v1 v2 v3 x st G => ev_aload_nF rfl rfl,
  fun v0 v1 v2 x st G => ev_iload_n rfl rfl,
  fun ls st G => ev_iconst rfl rfl,
  fun x y ls st G => ev_iadd rfl,
  fun i r ls st G => ev_iaload rfl,
  fun a0 a1 r ls st G hr hG => ev_virt (As := [.int a0, .int a1]) rfl rfl rfl rfl rfl rfl hr hG,
  fun v0 v1 v3 x st G => ev_aload_n rfl rfl,
  fun v1 v2 v3 x st G => ev_aload_nF rfl rfl,
  fun v0 v1 v2 x st G => ev_iload_n rfl rfl,
  fun ls st G => ev_iconst rfl rfl,
  fun x y ls st G => ev_iadd rfl,
  fun i r ls st G => ev_iaload rfl,
  fun v1 v2 v3 x st G => ev_aload_nF rfl rfl,
  fun v0 v1 v2 x st G => ev_iload_n rfl rfl,
  fun ls st G => ev_iconst rfl rfl,
  fun x y ls st G => ev_iadd rfl,
  fun i r ls st G => ev_iaload rfl,
  fun a0 a1 r ls st G hr hG => ev_virt (As := [.int a0, .int a1]) rfl rfl rfl rfl rfl rfl hr hG,
  fun x y ls st G => ev_br rfl rfl,
  fun ls st G => ev_iconst rfl rfl,
  fun v ls G hv => ev_zreturn rfl rfl hv,
  fun v0 v2 v3 x st G => ev_aload_n rfl rfl,
  fun v1 v2 v3 x st G => ev_aload_nF rfl rfl,
  fun v0 v1 v2 x st G => ev_iload_n rfl rfl,
  fun ls st G => ev_iconst rfl rfl,
  fun x y ls st G => ev_iadd rfl,
  fun i r ls st G => ev_iaload rfl,
  fun v1 v2 v3 x st G => ev_aload_nF rfl rfl,
  fun v0 v1 v2 x st G => ev_iload_n rfl rfl,
  fun ls st G => ev_iconst rfl rfl,
  fun x y ls st G => ev_iadd rfl⟩
set_option maxRecDepth 100000 in
theorem e_180_2 {X : mc_X} : (∀ (i : Int32) (r : Value) (ls st : List Value) (G : mc_H), mc_ev X 180 264 ls (.int i :: r :: st) G = (mc_getA X G 0 r i).bind (fun x => mc_ev X 180 265 ls (.int x :: st) G)) ∧
  (∀ (a0 : Int32) (a1 : Int32) (r : Nat) (ls st : List Value) (G : mc_H), st.length ≤ 4 → mc_cls G r = some 7 → mc_ev X 180 265 ls (.int a1 :: .int a0 :: .ref r :: st) G = (mc_ev X 63 0 [.ref r, .int a0, .int a1, .null] [] G).bind (fun q => mc_ev X 180 268 ls (q.1.toList ++ st) q.2)) ∧
  (∀ (v0 v1 v3 : Value) (x : Nat) (st : List Value) (G : mc_H), mc_ev X 180 268 [v0, v1, .ref x, v3] st G = mc_ev X 180 269 [v0, v1, .ref x, v3] (.ref x :: st) G) ∧
  (∀ (v1 v2 v3 : Value) (x : UInt32) (st : List Value) (G : mc_H), mc_ev X 180 269 [.float x, v1, v2, v3] st G = mc_ev X 180 270 [.float x, v1, v2, v3] (.float x :: st) G) ∧
  (∀ (v0 v1 v2 : Value) (x : Int32) (st : List Value) (G : mc_H), mc_ev X 180 270 [v0, v1, v2, .int x] st G = mc_ev X 180 271 [v0, v1, v2, .int x] (.int x :: st) G) ∧
  (∀ (ls st : List Value) (G : mc_H), mc_ev X 180 271 ls st G = mc_ev X 180 272 ls (.int 1 :: st) G) ∧
  (∀ (x y : Int32) (ls st : List Value) (G : mc_H), mc_ev X 180 272 ls (.int y :: .int x :: st) G = mc_ev X 180 273 ls (.int (x + y) :: st) G) ∧
  (∀ (i : Int32) (r : Value) (ls st : List Value) (G : mc_H), mc_ev X 180 273 ls (.int i :: r :: st) G = (mc_getA X G 0 r i).bind (fun x => mc_ev X 180 274 ls (.int x :: st) G)) ∧
  (∀ (v1 v2 v3 : Value) (x : UInt32) (st : List Value) (G : mc_H), mc_ev X 180 274 [.float x, v1, v2, v3] st G = mc_ev X 180 275 [.float x, v1, v2, v3] (.float x :: st) G) ∧
  (∀ (v0 v1 v2 : Value) (x : Int32) (st : List Value) (G : mc_H), mc_ev X 180 275 [v0, v1, v2, .int x] st G = mc_ev X 180 276 [v0, v1, v2, .int x] (.int x :: st) G) ∧
  (∀ (ls st : List Value) (G : mc_H), mc_ev X 180 276 ls st G = mc_ev X 180 277 ls (.int 2 :: st) G) ∧
  (∀ (x y : Int32) (ls st : List Value) (G : mc_H), mc_ev X 180 277 ls (.int y :: .int x :: st) G = mc_ev X 180 278 ls (.int (x + y) :: st) G) ∧
  (∀ (i : Int32) (r : Value) (ls st : List Value) (G : mc_H), mc_ev X 180 278 ls (.int i :: r :: st) G = (mc_getA X G 0 r i).bind (fun x => mc_ev X 180 279 ls (.int x :: st) G)) ∧
  (∀ (a0 : Int32) (a1 : Int32) (r : Nat) (ls st : List Value) (G : mc_H), st.length ≤ 4 → mc_cls G r = some 8 → mc_ev X 180 279 ls (.int a1 :: .int a0 :: .ref r :: st) G = (mc_ev X 135 0 [.ref r, .int a0, .int a1, .null] [] G).bind (fun q => mc_ev X 180 282 ls (q.1.toList ++ st) q.2)) ∧
  (∀ (x y : Int32) (ls st : List Value) (G : mc_H), mc_ev X 180 282 ls (.int y :: .int x :: st) G = if x = y then mc_ev X 180 1224 ls st G else mc_ev X 180 285 ls st G) ∧
  (∀ (ls st : List Value) (G : mc_H), mc_ev X 180 285 ls st G = mc_ev X 180 286 ls (.int 0 :: st) G) ∧
  (∀ (v : Int32) (ls : List Value) (G : mc_H), (v = 0 ∨ v = 1) → mc_ev X 180 286 ls [.int v] G = some (some (.int v), G)) ∧
  (∀ (v0 v2 v3 : Value) (x : Nat) (st : List Value) (G : mc_H), mc_ev X 180 287 [v0, .ref x, v2, v3] st G = mc_ev X 180 288 [v0, .ref x, v2, v3] (.ref x :: st) G) ∧
  (∀ (v1 v2 v3 : Value) (x : UInt32) (st : List Value) (G : mc_H), mc_ev X 180 288 [.float x, v1, v2, v3] st G = mc_ev X 180 289 [.float x, v1, v2, v3] (.float x :: st) G) ∧
  (∀ (v0 v1 v2 : Value) (x : Int32) (st : List Value) (G : mc_H), mc_ev X 180 289 [v0, v1, v2, .int x] st G = mc_ev X 180 290 [v0, v1, v2, .int x] (.int x :: st) G) ∧
  (∀ (ls st : List Value) (G : mc_H), mc_ev X 180 290 ls st G = mc_ev X 180 291 ls (.int 1 :: st) G) ∧
  (∀ (x y : Int32) (ls st : List Value) (G : mc_H), mc_ev X 180 291 ls (.int y :: .int x :: st) G = mc_ev X 180 292 ls (.int (x + y) :: st) G) ∧
  (∀ (i : Int32) (r : Value) (ls st : List Value) (G : mc_H), mc_ev X 180 292 ls (.int i :: r :: st) G = (mc_getA X G 0 r i).bind (fun x => mc_ev X 180 293 ls (.int x :: st) G)) ∧
  (∀ (v1 v2 v3 : Value) (x : UInt32) (st : List Value) (G : mc_H), mc_ev X 180 293 [.float x, v1, v2, v3] st G = mc_ev X 180 294 [.float x, v1, v2, v3] (.float x :: st) G) ∧
  (∀ (v0 v1 v2 : Value) (x : Int32) (st : List Value) (G : mc_H), mc_ev X 180 294 [v0, v1, v2, .int x] st G = mc_ev X 180 295 [v0, v1, v2, .int x] (.int x :: st) G) ∧
  (∀ (ls st : List Value) (G : mc_H), mc_ev X 180 295 ls st G = mc_ev X 180 296 ls (.int 2 :: st) G) ∧
  (∀ (x y : Int32) (ls st : List Value) (G : mc_H), mc_ev X 180 296 ls (.int y :: .int x :: st) G = mc_ev X 180 297 ls (.int (x + y) :: st) G) ∧
  (∀ (i : Int32) (r : Value) (ls st : List Value) (G : mc_H), mc_ev X 180 297 ls (.int i :: r :: st) G = (mc_getA X G 0 r i).bind (fun x => mc_ev X 180 298 ls (.int x :: st) G)) ∧
  (∀ (x : Int32) (ls st : List Value) (G : mc_H), mc_ev X 180 298 ls (.int x :: st) G = if x = 0 then mc_ev X 180 305 ls st G else mc_ev X 180 301 ls st G) ∧
  (∀ (ls st : List Value) (G : mc_H), mc_ev X 180 301 ls st G = mc_ev X 180 302 ls (.int 1 :: st) G) ∧
  (∀ (ls st : List Value) (G : mc_H), mc_ev X 180 302 ls st G = mc_ev X 180 306 ls st G) ∧
  (∀ (ls st : List Value) (G : mc_H), mc_ev X 180 305 ls st G = mc_ev X 180 306 ls (.int 0 :: st) G) ∧
  (∀ (a0 : Int32) (a1 : Int32) (r : Nat) (ls st : List Value) (G : mc_H), st.length ≤ 4 → mc_cls G r = some 7 → mc_ev X 180 306 ls (.int a1 :: .int a0 :: .ref r :: st) G = (mc_ev X 64 0 [.ref r, .int a0, .int a1, .null] [] G).bind (fun q => mc_ev X 180 309 ls (q.1.toList ++ st) q.2)) ∧
  (∀ (v0 v1 v3 : Value) (x : Nat) (st : List Value) (G : mc_H), mc_ev X 180 309 [v0, v1, .ref x, v3] st G = mc_ev X 180 310 [v0, v1, .ref x, v3] (.ref x :: st) G) ∧
  (∀ (v1 v2 v3 : Value) (x : UInt32) (st : List Value) (G : mc_H), mc_ev X 180 310 [.float x, v1, v2, v3] st G = mc_ev X 180 311 [.float x, v1, v2, v3] (.float x :: st) G) ∧
  (∀ (v0 v1 v2 : Value) (x : Int32) (st : List Value) (G : mc_H), mc_ev X 180 311 [v0, v1, v2, .int x] st G = mc_ev X 180 312 [v0, v1, v2, .int x] (.int x :: st) G) ∧
  (∀ (ls st : List Value) (G : mc_H), mc_ev X 180 312 ls st G = mc_ev X 180 313 ls (.int 1 :: st) G) ∧
  (∀ (x y : Int32) (ls st : List Value) (G : mc_H), mc_ev X 180 313 ls (.int y :: .int x :: st) G = mc_ev X 180 314 ls (.int (x + y) :: st) G) ∧
  (∀ (i : Int32) (r : Value) (ls st : List Value) (G : mc_H), mc_ev X 180 314 ls (.int i :: r :: st) G = (mc_getA X G 0 r i).bind (fun x => mc_ev X 180 315 ls (.int x :: st) G)) ∧
  (∀ (v1 v2 v3 : Value) (x : UInt32) (st : List Value) (G : mc_H), mc_ev X 180 315 [.float x, v1, v2, v3] st G = mc_ev X 180 316 [.float x, v1, v2, v3] (.float x :: st) G) ∧
  (∀ (v0 v1 v2 : Value) (x : Int32) (st : List Value) (G : mc_H), mc_ev X 180 316 [v0, v1, v2, .int x] st G = mc_ev X 180 317 [v0, v1, v2, .int x] (.int x :: st) G) ∧
  (∀ (ls st : List Value) (G : mc_H), mc_ev X 180 317 ls st G = mc_ev X 180 318 ls (.int 2 :: st) G) ∧
  (∀ (x y : Int32) (ls st : List Value) (G : mc_H), mc_ev X 180 318 ls (.int y :: .int x :: st) G = mc_ev X 180 319 ls (.int (x + y) :: st) G) ∧
  (∀ (i : Int32) (r : Value) (ls st : List Value) (G : mc_H), mc_ev X 180 319 ls (.int i :: r :: st) G = (mc_getA X G 0 r i).bind (fun x => mc_ev X 180 320 ls (.int x :: st) G)) ∧
  (∀ (x : Int32) (ls st : List Value) (G : mc_H), mc_ev X 180 320 ls (.int x :: st) G = if x = 0 then mc_ev X 180 327 ls st G else mc_ev X 180 323 ls st G) ∧
  (∀ (ls st : List Value) (G : mc_H), mc_ev X 180 323 ls st G = mc_ev X 180 324 ls (.int 1 :: st) G) ∧
  (∀ (ls st : List Value) (G : mc_H), mc_ev X 180 324 ls st G = mc_ev X 180 328 ls st G) ∧
  (∀ (ls st : List Value) (G : mc_H), mc_ev X 180 327 ls st G = mc_ev X 180 328 ls (.int 0 :: st) G) ∧
  (∀ (a0 : Int32) (a1 : Int32) (r : Nat) (ls st : List Value) (G : mc_H), st.length ≤ 4 → mc_cls G r = some 8 → mc_ev X 180 328 ls (.int a1 :: .int a0 :: .ref r :: st) G = (mc_ev X 136 0 [.ref r, .int a0, .int a1, .null] [] G).bind (fun q => mc_ev X 180 331 ls (q.1.toList ++ st) q.2)) ∧
  (∀ (x y : Int32) (ls st : List Value) (G : mc_H), mc_ev X 180 331 ls (.int y :: .int x :: st) G = if x = y then mc_ev X 180 1224 ls st G else mc_ev X 180 334 ls st G) ∧
  (∀ (ls st : List Value) (G : mc_H), mc_ev X 180 334 ls st G = mc_ev X 180 335 ls (.int 0 :: st) G) ∧
  (∀ (v : Int32) (ls : List Value) (G : mc_H), (v = 0 ∨ v = 1) → mc_ev X 180 335 ls [.int v] G = some (some (.int v), G)) ∧
  (∀ (v0 v2 v3 : Value) (x : Nat) (st : List Value) (G : mc_H), mc_ev X 180 336 [v0, .ref x, v2, v3] st G = mc_ev X 180 337 [v0, .ref x, v2, v3] (.ref x :: st) G) ∧
  (∀ (v1 v2 v3 : Value) (x : UInt32) (st : List Value) (G : mc_H), mc_ev X 180 337 [.float x, v1, v2, v3] st G = mc_ev X 180 338 [.float x, v1, v2, v3] (.float x :: st) G) ∧
  (∀ (v0 v1 v2 : Value) (x : Int32) (st : List Value) (G : mc_H), mc_ev X 180 338 [v0, v1, v2, .int x] st G = mc_ev X 180 339 [v0, v1, v2, .int x] (.int x :: st) G) ∧
  (∀ (ls st : List Value) (G : mc_H), mc_ev X 180 339 ls st G = mc_ev X 180 340 ls (.int 1 :: st) G) ∧
  (∀ (x y : Int32) (ls st : List Value) (G : mc_H), mc_ev X 180 340 ls (.int y :: .int x :: st) G = mc_ev X 180 341 ls (.int (x + y) :: st) G) ∧
  (∀ (i : Int32) (r : Value) (ls st : List Value) (G : mc_H), mc_ev X 180 341 ls (.int i :: r :: st) G = (mc_getA X G 0 r i).bind (fun x => mc_ev X 180 342 ls (.int x :: st) G)) ∧
  (∀ (a0 : Int32) (r : Nat) (ls st : List Value) (G : mc_H), st.length ≤ 4 → mc_cls G r = some 7 → mc_ev X 180 342 ls (.int a0 :: .ref r :: st) G = (mc_ev X 65 0 [.ref r, .int a0, .null] [] G).bind (fun q => mc_ev X 180 345 ls (q.1.toList ++ st) q.2)) ∧
  (∀ (v0 v1 v3 : Value) (x : Nat) (st : List Value) (G : mc_H), mc_ev X 180 345 [v0, v1, .ref x, v3] st G = mc_ev X 180 346 [v0, v1, .ref x, v3] (.ref x :: st) G) := ⟨fun i r ls st G => ev_iaload rfl,
  fun a0 a1 r ls st G hr hG => ev_virt (As := [.int a0, .int a1]) rfl rfl rfl rfl rfl rfl hr hG,
  fun v0 v1 v3 x st G => ev_aload_n rfl rfl,
  fun v1 v2 v3 x st G => ev_aload_nF rfl rfl,
  fun v0 v1 v2 x st G => ev_iload_n rfl rfl,
  fun ls st G => ev_iconst rfl rfl,
  fun x y ls st G => ev_iadd rfl,
  fun i r ls st G => ev_iaload rfl,
  fun v1 v2 v3 x st G => ev_aload_nF rfl rfl,
  fun v0 v1 v2 x st G => ev_iload_n rfl rfl,
  fun ls st G => ev_iconst rfl rfl,
  fun x y ls st G => ev_iadd rfl,
  fun i r ls st G => ev_iaload rfl,
  fun a0 a1 r ls st G hr hG => ev_virt (As := [.int a0, .int a1]) rfl rfl rfl rfl rfl rfl hr hG,
  fun x y ls st G => ev_br rfl rfl,
  fun ls st G => ev_iconst rfl rfl,
  fun v ls G hv => ev_zreturn rfl rfl hv,
  fun v0 v2 v3 x st G => ev_aload_n rfl rfl,
  fun v1 v2 v3 x st G => ev_aload_nF rfl rfl,
  fun v0 v1 v2 x st G => ev_iload_n rfl rfl,
  fun ls st G => ev_iconst rfl rfl,
  fun x y ls st G => ev_iadd rfl,
  fun i r ls st G => ev_iaload rfl,
  fun v1 v2 v3 x st G => ev_aload_nF rfl rfl,
  fun v0 v1 v2 x st G => ev_iload_n rfl rfl,
  fun ls st G => ev_iconst rfl rfl,
  fun x y ls st G => ev_iadd rfl,
  fun i r ls st G => ev_iaload rfl,
  fun x ls st G => ev_br rfl rfl,
  fun ls st G => ev_iconst rfl rfl,
  fun ls st G => ev_goto rfl rfl,
  fun ls st G => ev_iconst rfl rfl,
  fun a0 a1 r ls st G hr hG => ev_virt (As := [.int a0, .int a1]) rfl rfl rfl rfl rfl rfl hr hG,
  fun v0 v1 v3 x st G => ev_aload_n rfl rfl,
  fun v1 v2 v3 x st G => ev_aload_nF rfl rfl,
  fun v0 v1 v2 x st G => ev_iload_n rfl rfl,
  fun ls st G => ev_iconst rfl rfl,
  fun x y ls st G => ev_iadd rfl,
  fun i r ls st G => ev_iaload rfl,
  fun v1 v2 v3 x st G => ev_aload_nF rfl rfl,
  fun v0 v1 v2 x st G => ev_iload_n rfl rfl,
  fun ls st G => ev_iconst rfl rfl,
  fun x y ls st G => ev_iadd rfl,
  fun i r ls st G => ev_iaload rfl,
  fun x ls st G => ev_br rfl rfl,
  fun ls st G => ev_iconst rfl rfl,
  fun ls st G => ev_goto rfl rfl,
  fun ls st G => ev_iconst rfl rfl,
  fun a0 a1 r ls st G hr hG => ev_virt (As := [.int a0, .int a1]) rfl rfl rfl rfl rfl rfl hr hG,
  fun x y ls st G => ev_br rfl rfl,
  fun ls st G => ev_iconst rfl rfl,
  fun v ls G hv => ev_zreturn rfl rfl hv,
  fun v0 v2 v3 x st G => ev_aload_n rfl rfl,
  fun v1 v2 v3 x st G => ev_aload_nF rfl rfl,
  fun v0 v1 v2 x st G => ev_iload_n rfl rfl,
  fun ls st G => ev_iconst rfl rfl,
  fun x y ls st G => ev_iadd rfl,
  fun i r ls st G => ev_iaload rfl,
  fun a0 r ls st G hr hG => ev_virt (As := [.int a0]) rfl rfl rfl rfl rfl rfl hr hG,
  fun v0 v1 v3 x st G => ev_aload_n rfl rfl⟩
set_option maxRecDepth 100000 in
theorem e_180_3 {X : mc_X} : (∀ (v1 v2 v3 : Value) (x : UInt32) (st : List Value) (G : mc_H), mc_ev X 180 346 [.float x, v1, v2, v3] st G = mc_ev X 180 347 [.float x, v1, v2, v3] (.float x :: st) G) ∧
  (∀ (v0 v1 v2 : Value) (x : Int32) (st : List Value) (G : mc_H), mc_ev X 180 347 [v0, v1, v2, .int x] st G = mc_ev X 180 348 [v0, v1, v2, .int x] (.int x :: st) G) ∧
  (∀ (ls st : List Value) (G : mc_H), mc_ev X 180 348 ls st G = mc_ev X 180 349 ls (.int 1 :: st) G) ∧
  (∀ (x y : Int32) (ls st : List Value) (G : mc_H), mc_ev X 180 349 ls (.int y :: .int x :: st) G = mc_ev X 180 350 ls (.int (x + y) :: st) G) ∧
  (∀ (i : Int32) (r : Value) (ls st : List Value) (G : mc_H), mc_ev X 180 350 ls (.int i :: r :: st) G = (mc_getA X G 0 r i).bind (fun x => mc_ev X 180 351 ls (.int x :: st) G)) ∧
  (∀ (a0 : Int32) (r : Nat) (ls st : List Value) (G : mc_H), st.length ≤ 4 → mc_cls G r = some 8 → mc_ev X 180 351 ls (.int a0 :: .ref r :: st) G = (mc_ev X 137 0 [.ref r, .int a0, .null] [] G).bind (fun q => mc_ev X 180 354 ls (q.1.toList ++ st) q.2)) ∧
  (∀ (x y : Int32) (ls st : List Value) (G : mc_H), mc_ev X 180 354 ls (.int y :: .int x :: st) G = if x = y then mc_ev X 180 1224 ls st G else mc_ev X 180 357 ls st G) ∧
  (∀ (ls st : List Value) (G : mc_H), mc_ev X 180 357 ls st G = mc_ev X 180 358 ls (.int 0 :: st) G) ∧
  (∀ (v : Int32) (ls : List Value) (G : mc_H), (v = 0 ∨ v = 1) → mc_ev X 180 358 ls [.int v] G = some (some (.int v), G)) ∧
  (∀ (v0 v2 v3 : Value) (x : Nat) (st : List Value) (G : mc_H), mc_ev X 180 359 [v0, .ref x, v2, v3] st G = mc_ev X 180 360 [v0, .ref x, v2, v3] (.ref x :: st) G) ∧
  (∀ (v1 v2 v3 : Value) (x : UInt32) (st : List Value) (G : mc_H), mc_ev X 180 360 [.float x, v1, v2, v3] st G = mc_ev X 180 361 [.float x, v1, v2, v3] (.float x :: st) G) ∧
  (∀ (v0 v1 v2 : Value) (x : Int32) (st : List Value) (G : mc_H), mc_ev X 180 361 [v0, v1, v2, .int x] st G = mc_ev X 180 362 [v0, v1, v2, .int x] (.int x :: st) G) ∧
  (∀ (ls st : List Value) (G : mc_H), mc_ev X 180 362 ls st G = mc_ev X 180 363 ls (.int 1 :: st) G) ∧
  (∀ (x y : Int32) (ls st : List Value) (G : mc_H), mc_ev X 180 363 ls (.int y :: .int x :: st) G = mc_ev X 180 364 ls (.int (x + y) :: st) G) ∧
  (∀ (i : Int32) (r : Value) (ls st : List Value) (G : mc_H), mc_ev X 180 364 ls (.int i :: r :: st) G = (mc_getA X G 0 r i).bind (fun x => mc_ev X 180 365 ls (.int x :: st) G)) ∧
  (∀ (a0 : Int32) (r : Nat) (ls st : List Value) (G : mc_H), st.length ≤ 4 → mc_cls G r = some 7 → mc_ev X 180 365 ls (.int a0 :: .ref r :: st) G = (mc_ev X 66 0 [.ref r, .int a0, .null] [] G).bind (fun q => mc_ev X 180 368 ls (q.1.toList ++ st) q.2)) ∧
  (∀ (v0 v1 v3 : Value) (x : Nat) (st : List Value) (G : mc_H), mc_ev X 180 368 [v0, v1, .ref x, v3] st G = mc_ev X 180 369 [v0, v1, .ref x, v3] (.ref x :: st) G) ∧
  (∀ (v1 v2 v3 : Value) (x : UInt32) (st : List Value) (G : mc_H), mc_ev X 180 369 [.float x, v1, v2, v3] st G = mc_ev X 180 370 [.float x, v1, v2, v3] (.float x :: st) G) ∧
  (∀ (v0 v1 v2 : Value) (x : Int32) (st : List Value) (G : mc_H), mc_ev X 180 370 [v0, v1, v2, .int x] st G = mc_ev X 180 371 [v0, v1, v2, .int x] (.int x :: st) G) ∧
  (∀ (ls st : List Value) (G : mc_H), mc_ev X 180 371 ls st G = mc_ev X 180 372 ls (.int 1 :: st) G) ∧
  (∀ (x y : Int32) (ls st : List Value) (G : mc_H), mc_ev X 180 372 ls (.int y :: .int x :: st) G = mc_ev X 180 373 ls (.int (x + y) :: st) G) ∧
  (∀ (i : Int32) (r : Value) (ls st : List Value) (G : mc_H), mc_ev X 180 373 ls (.int i :: r :: st) G = (mc_getA X G 0 r i).bind (fun x => mc_ev X 180 374 ls (.int x :: st) G)) ∧
  (∀ (a0 : Int32) (r : Nat) (ls st : List Value) (G : mc_H), st.length ≤ 4 → mc_cls G r = some 8 → mc_ev X 180 374 ls (.int a0 :: .ref r :: st) G = (mc_ev X 138 0 [.ref r, .int a0, .null, .null] [] G).bind (fun q => mc_ev X 180 377 ls (q.1.toList ++ st) q.2)) ∧
  (∀ (x y : Int32) (ls st : List Value) (G : mc_H), mc_ev X 180 377 ls (.int y :: .int x :: st) G = if x = y then mc_ev X 180 1224 ls st G else mc_ev X 180 380 ls st G) ∧
  (∀ (ls st : List Value) (G : mc_H), mc_ev X 180 380 ls st G = mc_ev X 180 381 ls (.int 0 :: st) G) ∧
  (∀ (v : Int32) (ls : List Value) (G : mc_H), (v = 0 ∨ v = 1) → mc_ev X 180 381 ls [.int v] G = some (some (.int v), G)) ∧
  (∀ (v0 v2 v3 : Value) (x : Nat) (st : List Value) (G : mc_H), mc_ev X 180 382 [v0, .ref x, v2, v3] st G = mc_ev X 180 383 [v0, .ref x, v2, v3] (.ref x :: st) G) ∧
  (∀ (v1 v2 v3 : Value) (x : UInt32) (st : List Value) (G : mc_H), mc_ev X 180 383 [.float x, v1, v2, v3] st G = mc_ev X 180 384 [.float x, v1, v2, v3] (.float x :: st) G) ∧
  (∀ (v0 v1 v2 : Value) (x : Int32) (st : List Value) (G : mc_H), mc_ev X 180 384 [v0, v1, v2, .int x] st G = mc_ev X 180 385 [v0, v1, v2, .int x] (.int x :: st) G) ∧
  (∀ (ls st : List Value) (G : mc_H), mc_ev X 180 385 ls st G = mc_ev X 180 386 ls (.int 1 :: st) G) ∧
  (∀ (x y : Int32) (ls st : List Value) (G : mc_H), mc_ev X 180 386 ls (.int y :: .int x :: st) G = mc_ev X 180 387 ls (.int (x + y) :: st) G) ∧
  (∀ (i : Int32) (r : Value) (ls st : List Value) (G : mc_H), mc_ev X 180 387 ls (.int i :: r :: st) G = (mc_getA X G 0 r i).bind (fun x => mc_ev X 180 388 ls (.int x :: st) G)) ∧
  (∀ (v1 v2 v3 : Value) (x : UInt32) (st : List Value) (G : mc_H), mc_ev X 180 388 [.float x, v1, v2, v3] st G = mc_ev X 180 389 [.float x, v1, v2, v3] (.float x :: st) G) ∧
  (∀ (v0 v1 v2 : Value) (x : Int32) (st : List Value) (G : mc_H), mc_ev X 180 389 [v0, v1, v2, .int x] st G = mc_ev X 180 390 [v0, v1, v2, .int x] (.int x :: st) G) ∧
  (∀ (ls st : List Value) (G : mc_H), mc_ev X 180 390 ls st G = mc_ev X 180 391 ls (.int 2 :: st) G) ∧
  (∀ (x y : Int32) (ls st : List Value) (G : mc_H), mc_ev X 180 391 ls (.int y :: .int x :: st) G = mc_ev X 180 392 ls (.int (x + y) :: st) G) ∧
  (∀ (i : Int32) (r : Value) (ls st : List Value) (G : mc_H), mc_ev X 180 392 ls (.int i :: r :: st) G = (mc_getA X G 0 r i).bind (fun x => mc_ev X 180 393 ls (.int x :: st) G)) ∧
  (∀ (a0 : Int32) (a1 : Int32) (r : Nat) (ls st : List Value) (G : mc_H), st.length ≤ 4 → mc_cls G r = some 7 → mc_ev X 180 393 ls (.int a1 :: .int a0 :: .ref r :: st) G = (mc_ev X 67 0 [.ref r, .int a0, .int a1, .null] [] G).bind (fun q => mc_ev X 180 396 ls (q.1.toList ++ st) q.2)) ∧
  (∀ (v0 v1 v3 : Value) (x : Nat) (st : List Value) (G : mc_H), mc_ev X 180 396 [v0, v1, .ref x, v3] st G = mc_ev X 180 397 [v0, v1, .ref x, v3] (.ref x :: st) G) ∧
  (∀ (v1 v2 v3 : Value) (x : UInt32) (st : List Value) (G : mc_H), mc_ev X 180 397 [.float x, v1, v2, v3] st G = mc_ev X 180 398 [.float x, v1, v2, v3] (.float x :: st) G) ∧
  (∀ (v0 v1 v2 : Value) (x : Int32) (st : List Value) (G : mc_H), mc_ev X 180 398 [v0, v1, v2, .int x] st G = mc_ev X 180 399 [v0, v1, v2, .int x] (.int x :: st) G) ∧
  (∀ (ls st : List Value) (G : mc_H), mc_ev X 180 399 ls st G = mc_ev X 180 400 ls (.int 1 :: st) G) ∧
  (∀ (x y : Int32) (ls st : List Value) (G : mc_H), mc_ev X 180 400 ls (.int y :: .int x :: st) G = mc_ev X 180 401 ls (.int (x + y) :: st) G) ∧
  (∀ (i : Int32) (r : Value) (ls st : List Value) (G : mc_H), mc_ev X 180 401 ls (.int i :: r :: st) G = (mc_getA X G 0 r i).bind (fun x => mc_ev X 180 402 ls (.int x :: st) G)) ∧
  (∀ (v1 v2 v3 : Value) (x : UInt32) (st : List Value) (G : mc_H), mc_ev X 180 402 [.float x, v1, v2, v3] st G = mc_ev X 180 403 [.float x, v1, v2, v3] (.float x :: st) G) ∧
  (∀ (v0 v1 v2 : Value) (x : Int32) (st : List Value) (G : mc_H), mc_ev X 180 403 [v0, v1, v2, .int x] st G = mc_ev X 180 404 [v0, v1, v2, .int x] (.int x :: st) G) ∧
  (∀ (ls st : List Value) (G : mc_H), mc_ev X 180 404 ls st G = mc_ev X 180 405 ls (.int 2 :: st) G) ∧
  (∀ (x y : Int32) (ls st : List Value) (G : mc_H), mc_ev X 180 405 ls (.int y :: .int x :: st) G = mc_ev X 180 406 ls (.int (x + y) :: st) G) ∧
  (∀ (i : Int32) (r : Value) (ls st : List Value) (G : mc_H), mc_ev X 180 406 ls (.int i :: r :: st) G = (mc_getA X G 0 r i).bind (fun x => mc_ev X 180 407 ls (.int x :: st) G)) ∧
  (∀ (a0 : Int32) (a1 : Int32) (r : Nat) (ls st : List Value) (G : mc_H), st.length ≤ 4 → mc_cls G r = some 8 → mc_ev X 180 407 ls (.int a1 :: .int a0 :: .ref r :: st) G = (mc_ev X 139 0 [.ref r, .int a0, .int a1, .null] [] G).bind (fun q => mc_ev X 180 410 ls (q.1.toList ++ st) q.2)) ∧
  (∀ (x y : Int32) (ls st : List Value) (G : mc_H), mc_ev X 180 410 ls (.int y :: .int x :: st) G = if x = y then mc_ev X 180 1224 ls st G else mc_ev X 180 413 ls st G) ∧
  (∀ (ls st : List Value) (G : mc_H), mc_ev X 180 413 ls st G = mc_ev X 180 414 ls (.int 0 :: st) G) ∧
  (∀ (v : Int32) (ls : List Value) (G : mc_H), (v = 0 ∨ v = 1) → mc_ev X 180 414 ls [.int v] G = some (some (.int v), G)) ∧
  (∀ (v0 v2 v3 : Value) (x : Nat) (st : List Value) (G : mc_H), mc_ev X 180 415 [v0, .ref x, v2, v3] st G = mc_ev X 180 416 [v0, .ref x, v2, v3] (.ref x :: st) G) ∧
  (∀ (v1 v2 v3 : Value) (x : UInt32) (st : List Value) (G : mc_H), mc_ev X 180 416 [.float x, v1, v2, v3] st G = mc_ev X 180 417 [.float x, v1, v2, v3] (.float x :: st) G) ∧
  (∀ (v0 v1 v2 : Value) (x : Int32) (st : List Value) (G : mc_H), mc_ev X 180 417 [v0, v1, v2, .int x] st G = mc_ev X 180 418 [v0, v1, v2, .int x] (.int x :: st) G) ∧
  (∀ (ls st : List Value) (G : mc_H), mc_ev X 180 418 ls st G = mc_ev X 180 419 ls (.int 1 :: st) G) ∧
  (∀ (x y : Int32) (ls st : List Value) (G : mc_H), mc_ev X 180 419 ls (.int y :: .int x :: st) G = mc_ev X 180 420 ls (.int (x + y) :: st) G) ∧
  (∀ (i : Int32) (r : Value) (ls st : List Value) (G : mc_H), mc_ev X 180 420 ls (.int i :: r :: st) G = (mc_getA X G 0 r i).bind (fun x => mc_ev X 180 421 ls (.int x :: st) G)) ∧
  (∀ (a0 : Int32) (r : Nat) (ls st : List Value) (G : mc_H), st.length ≤ 4 → mc_cls G r = some 7 → mc_ev X 180 421 ls (.int a0 :: .ref r :: st) G = (mc_ev X 68 0 [.ref r, .int a0, .null] [] G).bind (fun q => mc_ev X 180 424 ls (q.1.toList ++ st) q.2)) := ⟨fun v1 v2 v3 x st G => ev_aload_nF rfl rfl,
  fun v0 v1 v2 x st G => ev_iload_n rfl rfl,
  fun ls st G => ev_iconst rfl rfl,
  fun x y ls st G => ev_iadd rfl,
  fun i r ls st G => ev_iaload rfl,
  fun a0 r ls st G hr hG => ev_virt (As := [.int a0]) rfl rfl rfl rfl rfl rfl hr hG,
  fun x y ls st G => ev_br rfl rfl,
  fun ls st G => ev_iconst rfl rfl,
  fun v ls G hv => ev_zreturn rfl rfl hv,
  fun v0 v2 v3 x st G => ev_aload_n rfl rfl,
  fun v1 v2 v3 x st G => ev_aload_nF rfl rfl,
  fun v0 v1 v2 x st G => ev_iload_n rfl rfl,
  fun ls st G => ev_iconst rfl rfl,
  fun x y ls st G => ev_iadd rfl,
  fun i r ls st G => ev_iaload rfl,
  fun a0 r ls st G hr hG => ev_virt (As := [.int a0]) rfl rfl rfl rfl rfl rfl hr hG,
  fun v0 v1 v3 x st G => ev_aload_n rfl rfl,
  fun v1 v2 v3 x st G => ev_aload_nF rfl rfl,
  fun v0 v1 v2 x st G => ev_iload_n rfl rfl,
  fun ls st G => ev_iconst rfl rfl,
  fun x y ls st G => ev_iadd rfl,
  fun i r ls st G => ev_iaload rfl,
  fun a0 r ls st G hr hG => ev_virt (As := [.int a0]) rfl rfl rfl rfl rfl rfl hr hG,
  fun x y ls st G => ev_br rfl rfl,
  fun ls st G => ev_iconst rfl rfl,
  fun v ls G hv => ev_zreturn rfl rfl hv,
  fun v0 v2 v3 x st G => ev_aload_n rfl rfl,
  fun v1 v2 v3 x st G => ev_aload_nF rfl rfl,
  fun v0 v1 v2 x st G => ev_iload_n rfl rfl,
  fun ls st G => ev_iconst rfl rfl,
  fun x y ls st G => ev_iadd rfl,
  fun i r ls st G => ev_iaload rfl,
  fun v1 v2 v3 x st G => ev_aload_nF rfl rfl,
  fun v0 v1 v2 x st G => ev_iload_n rfl rfl,
  fun ls st G => ev_iconst rfl rfl,
  fun x y ls st G => ev_iadd rfl,
  fun i r ls st G => ev_iaload rfl,
  fun a0 a1 r ls st G hr hG => ev_virt (As := [.int a0, .int a1]) rfl rfl rfl rfl rfl rfl hr hG,
  fun v0 v1 v3 x st G => ev_aload_n rfl rfl,
  fun v1 v2 v3 x st G => ev_aload_nF rfl rfl,
  fun v0 v1 v2 x st G => ev_iload_n rfl rfl,
  fun ls st G => ev_iconst rfl rfl,
  fun x y ls st G => ev_iadd rfl,
  fun i r ls st G => ev_iaload rfl,
  fun v1 v2 v3 x st G => ev_aload_nF rfl rfl,
  fun v0 v1 v2 x st G => ev_iload_n rfl rfl,
  fun ls st G => ev_iconst rfl rfl,
  fun x y ls st G => ev_iadd rfl,
  fun i r ls st G => ev_iaload rfl,
  fun a0 a1 r ls st G hr hG => ev_virt (As := [.int a0, .int a1]) rfl rfl rfl rfl rfl rfl hr hG,
  fun x y ls st G => ev_br rfl rfl,
  fun ls st G => ev_iconst rfl rfl,
  fun v ls G hv => ev_zreturn rfl rfl hv,
  fun v0 v2 v3 x st G => ev_aload_n rfl rfl,
  fun v1 v2 v3 x st G => ev_aload_nF rfl rfl,
  fun v0 v1 v2 x st G => ev_iload_n rfl rfl,
  fun ls st G => ev_iconst rfl rfl,
  fun x y ls st G => ev_iadd rfl,
  fun i r ls st G => ev_iaload rfl,
  fun a0 r ls st G hr hG => ev_virt (As := [.int a0]) rfl rfl rfl rfl rfl rfl hr hG⟩
set_option maxRecDepth 100000 in
theorem e_180_4 {X : mc_X} : (∀ (v0 v1 v3 : Value) (x : Nat) (st : List Value) (G : mc_H), mc_ev X 180 424 [v0, v1, .ref x, v3] st G = mc_ev X 180 425 [v0, v1, .ref x, v3] (.ref x :: st) G) ∧
  (∀ (v1 v2 v3 : Value) (x : UInt32) (st : List Value) (G : mc_H), mc_ev X 180 425 [.float x, v1, v2, v3] st G = mc_ev X 180 426 [.float x, v1, v2, v3] (.float x :: st) G) ∧
  (∀ (v0 v1 v2 : Value) (x : Int32) (st : List Value) (G : mc_H), mc_ev X 180 426 [v0, v1, v2, .int x] st G = mc_ev X 180 427 [v0, v1, v2, .int x] (.int x :: st) G) ∧
  (∀ (ls st : List Value) (G : mc_H), mc_ev X 180 427 ls st G = mc_ev X 180 428 ls (.int 1 :: st) G) ∧
  (∀ (x y : Int32) (ls st : List Value) (G : mc_H), mc_ev X 180 428 ls (.int y :: .int x :: st) G = mc_ev X 180 429 ls (.int (x + y) :: st) G) ∧
  (∀ (i : Int32) (r : Value) (ls st : List Value) (G : mc_H), mc_ev X 180 429 ls (.int i :: r :: st) G = (mc_getA X G 0 r i).bind (fun x => mc_ev X 180 430 ls (.int x :: st) G)) ∧
  (∀ (a0 : Int32) (r : Nat) (ls st : List Value) (G : mc_H), st.length ≤ 4 → mc_cls G r = some 8 → mc_ev X 180 430 ls (.int a0 :: .ref r :: st) G = (mc_ev X 140 0 [.ref r, .int a0, .null] [] G).bind (fun q => mc_ev X 180 433 ls (q.1.toList ++ st) q.2)) ∧
  (∀ (x y : Int32) (ls st : List Value) (G : mc_H), mc_ev X 180 433 ls (.int y :: .int x :: st) G = if x = y then mc_ev X 180 1224 ls st G else mc_ev X 180 436 ls st G) ∧
  (∀ (ls st : List Value) (G : mc_H), mc_ev X 180 436 ls st G = mc_ev X 180 437 ls (.int 0 :: st) G) ∧
  (∀ (v : Int32) (ls : List Value) (G : mc_H), (v = 0 ∨ v = 1) → mc_ev X 180 437 ls [.int v] G = some (some (.int v), G)) ∧
  (∀ (v0 v2 v3 : Value) (x : Nat) (st : List Value) (G : mc_H), mc_ev X 180 438 [v0, .ref x, v2, v3] st G = mc_ev X 180 439 [v0, .ref x, v2, v3] (.ref x :: st) G) ∧
  (∀ (r : Nat) (ls st : List Value) (G : mc_H), st.length ≤ 4 → mc_cls G r = some 7 → mc_ev X 180 439 ls (.ref r :: st) G = (mc_ev X 69 0 [.ref r, .null, .null] [] G).bind (fun q => mc_ev X 180 442 ls (q.1.toList ++ st) q.2)) ∧
  (∀ (v0 v1 v3 : Value) (x : Nat) (st : List Value) (G : mc_H), mc_ev X 180 442 [v0, v1, .ref x, v3] st G = mc_ev X 180 443 [v0, v1, .ref x, v3] (.ref x :: st) G) ∧
  (∀ (r : Nat) (ls st : List Value) (G : mc_H), st.length ≤ 4 → mc_cls G r = some 8 → mc_ev X 180 443 ls (.ref r :: st) G = (mc_ev X 141 0 [.ref r, .null, .null, .null, .null] [] G).bind (fun q => mc_ev X 180 446 ls (q.1.toList ++ st) q.2)) ∧
  (∀ (x y : Int32) (ls st : List Value) (G : mc_H), mc_ev X 180 446 ls (.int y :: .int x :: st) G = if x = y then mc_ev X 180 1224 ls st G else mc_ev X 180 449 ls st G) ∧
  (∀ (ls st : List Value) (G : mc_H), mc_ev X 180 449 ls st G = mc_ev X 180 450 ls (.int 0 :: st) G) ∧
  (∀ (v : Int32) (ls : List Value) (G : mc_H), (v = 0 ∨ v = 1) → mc_ev X 180 450 ls [.int v] G = some (some (.int v), G)) ∧
  (∀ (v0 v2 v3 : Value) (x : Nat) (st : List Value) (G : mc_H), mc_ev X 180 451 [v0, .ref x, v2, v3] st G = mc_ev X 180 452 [v0, .ref x, v2, v3] (.ref x :: st) G) ∧
  (∀ (r : Nat) (ls st : List Value) (G : mc_H), st.length ≤ 4 → mc_cls G r = some 7 → mc_ev X 180 452 ls (.ref r :: st) G = (mc_ev X 70 0 [.ref r] [] G).bind (fun q => mc_ev X 180 455 ls (q.1.toList ++ st) q.2)) ∧
  (∀ (v0 v1 v3 : Value) (x : Nat) (st : List Value) (G : mc_H), mc_ev X 180 455 [v0, v1, .ref x, v3] st G = mc_ev X 180 456 [v0, v1, .ref x, v3] (.ref x :: st) G) ∧
  (∀ (r : Nat) (ls st : List Value) (G : mc_H), st.length ≤ 4 → mc_cls G r = some 8 → mc_ev X 180 456 ls (.ref r :: st) G = (mc_ev X 142 0 [.ref r, .null, .null] [] G).bind (fun q => mc_ev X 180 459 ls (q.1.toList ++ st) q.2)) ∧
  (∀ (x y : Int32) (ls st : List Value) (G : mc_H), mc_ev X 180 459 ls (.int y :: .int x :: st) G = if x = y then mc_ev X 180 1224 ls st G else mc_ev X 180 462 ls st G) ∧
  (∀ (ls st : List Value) (G : mc_H), mc_ev X 180 462 ls st G = mc_ev X 180 463 ls (.int 0 :: st) G) ∧
  (∀ (v : Int32) (ls : List Value) (G : mc_H), (v = 0 ∨ v = 1) → mc_ev X 180 463 ls [.int v] G = some (some (.int v), G)) ∧
  (∀ (v0 v2 v3 : Value) (x : Nat) (st : List Value) (G : mc_H), mc_ev X 180 464 [v0, .ref x, v2, v3] st G = mc_ev X 180 465 [v0, .ref x, v2, v3] (.ref x :: st) G) ∧
  (∀ (v1 v2 v3 : Value) (x : UInt32) (st : List Value) (G : mc_H), mc_ev X 180 465 [.float x, v1, v2, v3] st G = mc_ev X 180 466 [.float x, v1, v2, v3] (.float x :: st) G) ∧
  (∀ (v0 v1 v2 : Value) (x : Int32) (st : List Value) (G : mc_H), mc_ev X 180 466 [v0, v1, v2, .int x] st G = mc_ev X 180 467 [v0, v1, v2, .int x] (.int x :: st) G) ∧
  (∀ (ls st : List Value) (G : mc_H), mc_ev X 180 467 ls st G = mc_ev X 180 468 ls (.int 1 :: st) G) ∧
  (∀ (x y : Int32) (ls st : List Value) (G : mc_H), mc_ev X 180 468 ls (.int y :: .int x :: st) G = mc_ev X 180 469 ls (.int (x + y) :: st) G) ∧
  (∀ (i : Int32) (r : Value) (ls st : List Value) (G : mc_H), mc_ev X 180 469 ls (.int i :: r :: st) G = (mc_getA X G 0 r i).bind (fun x => mc_ev X 180 470 ls (.int x :: st) G)) ∧
  (∀ (a0 : Int32) (r : Nat) (ls st : List Value) (G : mc_H), st.length ≤ 4 → mc_cls G r = some 7 → mc_ev X 180 470 ls (.int a0 :: .ref r :: st) G = (mc_ev X 71 0 [.ref r, .int a0, .null] [] G).bind (fun q => mc_ev X 180 473 ls (q.1.toList ++ st) q.2)) ∧
  (∀ (v0 v1 v3 : Value) (x : Nat) (st : List Value) (G : mc_H), mc_ev X 180 473 [v0, v1, .ref x, v3] st G = mc_ev X 180 474 [v0, v1, .ref x, v3] (.ref x :: st) G) ∧
  (∀ (v1 v2 v3 : Value) (x : UInt32) (st : List Value) (G : mc_H), mc_ev X 180 474 [.float x, v1, v2, v3] st G = mc_ev X 180 475 [.float x, v1, v2, v3] (.float x :: st) G) ∧
  (∀ (v0 v1 v2 : Value) (x : Int32) (st : List Value) (G : mc_H), mc_ev X 180 475 [v0, v1, v2, .int x] st G = mc_ev X 180 476 [v0, v1, v2, .int x] (.int x :: st) G) ∧
  (∀ (ls st : List Value) (G : mc_H), mc_ev X 180 476 ls st G = mc_ev X 180 477 ls (.int 1 :: st) G) ∧
  (∀ (x y : Int32) (ls st : List Value) (G : mc_H), mc_ev X 180 477 ls (.int y :: .int x :: st) G = mc_ev X 180 478 ls (.int (x + y) :: st) G) ∧
  (∀ (i : Int32) (r : Value) (ls st : List Value) (G : mc_H), mc_ev X 180 478 ls (.int i :: r :: st) G = (mc_getA X G 0 r i).bind (fun x => mc_ev X 180 479 ls (.int x :: st) G)) ∧
  (∀ (a0 : Int32) (r : Nat) (ls st : List Value) (G : mc_H), st.length ≤ 4 → mc_cls G r = some 8 → mc_ev X 180 479 ls (.int a0 :: .ref r :: st) G = (mc_ev X 143 0 [.ref r, .int a0, .null] [] G).bind (fun q => mc_ev X 180 482 ls (q.1.toList ++ st) q.2)) ∧
  (∀ (x y : Int32) (ls st : List Value) (G : mc_H), mc_ev X 180 482 ls (.int y :: .int x :: st) G = if x = y then mc_ev X 180 1224 ls st G else mc_ev X 180 485 ls st G) ∧
  (∀ (ls st : List Value) (G : mc_H), mc_ev X 180 485 ls st G = mc_ev X 180 486 ls (.int 0 :: st) G) ∧
  (∀ (v : Int32) (ls : List Value) (G : mc_H), (v = 0 ∨ v = 1) → mc_ev X 180 486 ls [.int v] G = some (some (.int v), G)) ∧
  (∀ (v0 v2 v3 : Value) (x : Nat) (st : List Value) (G : mc_H), mc_ev X 180 487 [v0, .ref x, v2, v3] st G = mc_ev X 180 488 [v0, .ref x, v2, v3] (.ref x :: st) G) ∧
  (∀ (v1 v2 v3 : Value) (x : UInt32) (st : List Value) (G : mc_H), mc_ev X 180 488 [.float x, v1, v2, v3] st G = mc_ev X 180 489 [.float x, v1, v2, v3] (.float x :: st) G) ∧
  (∀ (v0 v1 v2 : Value) (x : Int32) (st : List Value) (G : mc_H), mc_ev X 180 489 [v0, v1, v2, .int x] st G = mc_ev X 180 490 [v0, v1, v2, .int x] (.int x :: st) G) ∧
  (∀ (ls st : List Value) (G : mc_H), mc_ev X 180 490 ls st G = mc_ev X 180 491 ls (.int 1 :: st) G) ∧
  (∀ (x y : Int32) (ls st : List Value) (G : mc_H), mc_ev X 180 491 ls (.int y :: .int x :: st) G = mc_ev X 180 492 ls (.int (x + y) :: st) G) ∧
  (∀ (i : Int32) (r : Value) (ls st : List Value) (G : mc_H), mc_ev X 180 492 ls (.int i :: r :: st) G = (mc_getA X G 0 r i).bind (fun x => mc_ev X 180 493 ls (.int x :: st) G)) ∧
  (∀ (a0 : Int32) (r : Nat) (ls st : List Value) (G : mc_H), st.length ≤ 4 → mc_cls G r = some 7 → mc_ev X 180 493 ls (.int a0 :: .ref r :: st) G = (mc_ev X 72 0 [.ref r, .int a0, .null] [] G).bind (fun q => mc_ev X 180 496 ls (q.1.toList ++ st) q.2)) ∧
  (∀ (v0 v1 v3 : Value) (x : Nat) (st : List Value) (G : mc_H), mc_ev X 180 496 [v0, v1, .ref x, v3] st G = mc_ev X 180 497 [v0, v1, .ref x, v3] (.ref x :: st) G) ∧
  (∀ (v1 v2 v3 : Value) (x : UInt32) (st : List Value) (G : mc_H), mc_ev X 180 497 [.float x, v1, v2, v3] st G = mc_ev X 180 498 [.float x, v1, v2, v3] (.float x :: st) G) ∧
  (∀ (v0 v1 v2 : Value) (x : Int32) (st : List Value) (G : mc_H), mc_ev X 180 498 [v0, v1, v2, .int x] st G = mc_ev X 180 499 [v0, v1, v2, .int x] (.int x :: st) G) ∧
  (∀ (ls st : List Value) (G : mc_H), mc_ev X 180 499 ls st G = mc_ev X 180 500 ls (.int 1 :: st) G) ∧
  (∀ (x y : Int32) (ls st : List Value) (G : mc_H), mc_ev X 180 500 ls (.int y :: .int x :: st) G = mc_ev X 180 501 ls (.int (x + y) :: st) G) ∧
  (∀ (i : Int32) (r : Value) (ls st : List Value) (G : mc_H), mc_ev X 180 501 ls (.int i :: r :: st) G = (mc_getA X G 0 r i).bind (fun x => mc_ev X 180 502 ls (.int x :: st) G)) ∧
  (∀ (a0 : Int32) (r : Nat) (ls st : List Value) (G : mc_H), st.length ≤ 4 → mc_cls G r = some 8 → mc_ev X 180 502 ls (.int a0 :: .ref r :: st) G = (mc_ev X 144 0 [.ref r, .int a0] [] G).bind (fun q => mc_ev X 180 505 ls (q.1.toList ++ st) q.2)) ∧
  (∀ (x y : Int32) (ls st : List Value) (G : mc_H), mc_ev X 180 505 ls (.int y :: .int x :: st) G = if x = y then mc_ev X 180 1224 ls st G else mc_ev X 180 508 ls st G) ∧
  (∀ (ls st : List Value) (G : mc_H), mc_ev X 180 508 ls st G = mc_ev X 180 509 ls (.int 0 :: st) G) ∧
  (∀ (v : Int32) (ls : List Value) (G : mc_H), (v = 0 ∨ v = 1) → mc_ev X 180 509 ls [.int v] G = some (some (.int v), G)) ∧
  (∀ (v0 v2 v3 : Value) (x : Nat) (st : List Value) (G : mc_H), mc_ev X 180 510 [v0, .ref x, v2, v3] st G = mc_ev X 180 511 [v0, .ref x, v2, v3] (.ref x :: st) G) ∧
  (∀ (v1 v2 v3 : Value) (x : UInt32) (st : List Value) (G : mc_H), mc_ev X 180 511 [.float x, v1, v2, v3] st G = mc_ev X 180 512 [.float x, v1, v2, v3] (.float x :: st) G) := ⟨fun v0 v1 v3 x st G => ev_aload_n rfl rfl,
  fun v1 v2 v3 x st G => ev_aload_nF rfl rfl,
  fun v0 v1 v2 x st G => ev_iload_n rfl rfl,
  fun ls st G => ev_iconst rfl rfl,
  fun x y ls st G => ev_iadd rfl,
  fun i r ls st G => ev_iaload rfl,
  fun a0 r ls st G hr hG => ev_virt (As := [.int a0]) rfl rfl rfl rfl rfl rfl hr hG,
  fun x y ls st G => ev_br rfl rfl,
  fun ls st G => ev_iconst rfl rfl,
  fun v ls G hv => ev_zreturn rfl rfl hv,
  fun v0 v2 v3 x st G => ev_aload_n rfl rfl,
  fun r ls st G hr hG => ev_virt (As := []) rfl rfl rfl rfl rfl rfl hr hG,
  fun v0 v1 v3 x st G => ev_aload_n rfl rfl,
  fun r ls st G hr hG => ev_virt (As := []) rfl rfl rfl rfl rfl rfl hr hG,
  fun x y ls st G => ev_br rfl rfl,
  fun ls st G => ev_iconst rfl rfl,
  fun v ls G hv => ev_zreturn rfl rfl hv,
  fun v0 v2 v3 x st G => ev_aload_n rfl rfl,
  fun r ls st G hr hG => ev_virt (As := []) rfl rfl rfl rfl rfl rfl hr hG,
  fun v0 v1 v3 x st G => ev_aload_n rfl rfl,
  fun r ls st G hr hG => ev_virt (As := []) rfl rfl rfl rfl rfl rfl hr hG,
  fun x y ls st G => ev_br rfl rfl,
  fun ls st G => ev_iconst rfl rfl,
  fun v ls G hv => ev_zreturn rfl rfl hv,
  fun v0 v2 v3 x st G => ev_aload_n rfl rfl,
  fun v1 v2 v3 x st G => ev_aload_nF rfl rfl,
  fun v0 v1 v2 x st G => ev_iload_n rfl rfl,
  fun ls st G => ev_iconst rfl rfl,
  fun x y ls st G => ev_iadd rfl,
  fun i r ls st G => ev_iaload rfl,
  fun a0 r ls st G hr hG => ev_virt (As := [.int a0]) rfl rfl rfl rfl rfl rfl hr hG,
  fun v0 v1 v3 x st G => ev_aload_n rfl rfl,
  fun v1 v2 v3 x st G => ev_aload_nF rfl rfl,
  fun v0 v1 v2 x st G => ev_iload_n rfl rfl,
  fun ls st G => ev_iconst rfl rfl,
  fun x y ls st G => ev_iadd rfl,
  fun i r ls st G => ev_iaload rfl,
  fun a0 r ls st G hr hG => ev_virt (As := [.int a0]) rfl rfl rfl rfl rfl rfl hr hG,
  fun x y ls st G => ev_br rfl rfl,
  fun ls st G => ev_iconst rfl rfl,
  fun v ls G hv => ev_zreturn rfl rfl hv,
  fun v0 v2 v3 x st G => ev_aload_n rfl rfl,
  fun v1 v2 v3 x st G => ev_aload_nF rfl rfl,
  fun v0 v1 v2 x st G => ev_iload_n rfl rfl,
  fun ls st G => ev_iconst rfl rfl,
  fun x y ls st G => ev_iadd rfl,
  fun i r ls st G => ev_iaload rfl,
  fun a0 r ls st G hr hG => ev_virt (As := [.int a0]) rfl rfl rfl rfl rfl rfl hr hG,
  fun v0 v1 v3 x st G => ev_aload_n rfl rfl,
  fun v1 v2 v3 x st G => ev_aload_nF rfl rfl,
  fun v0 v1 v2 x st G => ev_iload_n rfl rfl,
  fun ls st G => ev_iconst rfl rfl,
  fun x y ls st G => ev_iadd rfl,
  fun i r ls st G => ev_iaload rfl,
  fun a0 r ls st G hr hG => ev_virt (As := [.int a0]) rfl rfl rfl rfl rfl rfl hr hG,
  fun x y ls st G => ev_br rfl rfl,
  fun ls st G => ev_iconst rfl rfl,
  fun v ls G hv => ev_zreturn rfl rfl hv,
  fun v0 v2 v3 x st G => ev_aload_n rfl rfl,
  fun v1 v2 v3 x st G => ev_aload_nF rfl rfl⟩
set_option maxRecDepth 100000 in
theorem e_180_5 {X : mc_X} : (∀ (v0 v1 v2 : Value) (x : Int32) (st : List Value) (G : mc_H), mc_ev X 180 512 [v0, v1, v2, .int x] st G = mc_ev X 180 513 [v0, v1, v2, .int x] (.int x :: st) G) ∧
  (∀ (ls st : List Value) (G : mc_H), mc_ev X 180 513 ls st G = mc_ev X 180 514 ls (.int 1 :: st) G) ∧
  (∀ (x y : Int32) (ls st : List Value) (G : mc_H), mc_ev X 180 514 ls (.int y :: .int x :: st) G = mc_ev X 180 515 ls (.int (x + y) :: st) G) ∧
  (∀ (i : Int32) (r : Value) (ls st : List Value) (G : mc_H), mc_ev X 180 515 ls (.int i :: r :: st) G = (mc_getA X G 0 r i).bind (fun x => mc_ev X 180 516 ls (.int x :: st) G)) ∧
  (∀ (v1 v2 v3 : Value) (x : UInt32) (st : List Value) (G : mc_H), mc_ev X 180 516 [.float x, v1, v2, v3] st G = mc_ev X 180 517 [.float x, v1, v2, v3] (.float x :: st) G) ∧
  (∀ (v0 v1 v2 : Value) (x : Int32) (st : List Value) (G : mc_H), mc_ev X 180 517 [v0, v1, v2, .int x] st G = mc_ev X 180 518 [v0, v1, v2, .int x] (.int x :: st) G) ∧
  (∀ (ls st : List Value) (G : mc_H), mc_ev X 180 518 ls st G = mc_ev X 180 519 ls (.int 2 :: st) G) ∧
  (∀ (x y : Int32) (ls st : List Value) (G : mc_H), mc_ev X 180 519 ls (.int y :: .int x :: st) G = mc_ev X 180 520 ls (.int (x + y) :: st) G) ∧
  (∀ (i : Int32) (r : Value) (ls st : List Value) (G : mc_H), mc_ev X 180 520 ls (.int i :: r :: st) G = (mc_getA X G 0 r i).bind (fun x => mc_ev X 180 521 ls (.int x :: st) G)) ∧
  (∀ (a0 : Int32) (a1 : Int32) (r : Nat) (ls st : List Value) (G : mc_H), st.length ≤ 4 → mc_cls G r = some 7 → mc_ev X 180 521 ls (.int a1 :: .int a0 :: .ref r :: st) G = (mc_ev X 73 0 [.ref r, .int a0, .int a1] [] G).bind (fun q => mc_ev X 180 524 ls (q.1.toList ++ st) q.2)) ∧
  (∀ (v0 v1 v3 : Value) (x : Nat) (st : List Value) (G : mc_H), mc_ev X 180 524 [v0, v1, .ref x, v3] st G = mc_ev X 180 525 [v0, v1, .ref x, v3] (.ref x :: st) G) ∧
  (∀ (v1 v2 v3 : Value) (x : UInt32) (st : List Value) (G : mc_H), mc_ev X 180 525 [.float x, v1, v2, v3] st G = mc_ev X 180 526 [.float x, v1, v2, v3] (.float x :: st) G) ∧
  (∀ (v0 v1 v2 : Value) (x : Int32) (st : List Value) (G : mc_H), mc_ev X 180 526 [v0, v1, v2, .int x] st G = mc_ev X 180 527 [v0, v1, v2, .int x] (.int x :: st) G) ∧
  (∀ (ls st : List Value) (G : mc_H), mc_ev X 180 527 ls st G = mc_ev X 180 528 ls (.int 1 :: st) G) ∧
  (∀ (x y : Int32) (ls st : List Value) (G : mc_H), mc_ev X 180 528 ls (.int y :: .int x :: st) G = mc_ev X 180 529 ls (.int (x + y) :: st) G) ∧
  (∀ (i : Int32) (r : Value) (ls st : List Value) (G : mc_H), mc_ev X 180 529 ls (.int i :: r :: st) G = (mc_getA X G 0 r i).bind (fun x => mc_ev X 180 530 ls (.int x :: st) G)) ∧
  (∀ (v1 v2 v3 : Value) (x : UInt32) (st : List Value) (G : mc_H), mc_ev X 180 530 [.float x, v1, v2, v3] st G = mc_ev X 180 531 [.float x, v1, v2, v3] (.float x :: st) G) ∧
  (∀ (v0 v1 v2 : Value) (x : Int32) (st : List Value) (G : mc_H), mc_ev X 180 531 [v0, v1, v2, .int x] st G = mc_ev X 180 532 [v0, v1, v2, .int x] (.int x :: st) G) ∧
  (∀ (ls st : List Value) (G : mc_H), mc_ev X 180 532 ls st G = mc_ev X 180 533 ls (.int 2 :: st) G) ∧
  (∀ (x y : Int32) (ls st : List Value) (G : mc_H), mc_ev X 180 533 ls (.int y :: .int x :: st) G = mc_ev X 180 534 ls (.int (x + y) :: st) G) ∧
  (∀ (i : Int32) (r : Value) (ls st : List Value) (G : mc_H), mc_ev X 180 534 ls (.int i :: r :: st) G = (mc_getA X G 0 r i).bind (fun x => mc_ev X 180 535 ls (.int x :: st) G)) ∧
  (∀ (a0 : Int32) (a1 : Int32) (r : Nat) (ls st : List Value) (G : mc_H), st.length ≤ 4 → mc_cls G r = some 8 → mc_ev X 180 535 ls (.int a1 :: .int a0 :: .ref r :: st) G = (mc_ev X 145 0 [.ref r, .int a0, .int a1] [] G).bind (fun q => mc_ev X 180 538 ls (q.1.toList ++ st) q.2)) ∧
  (∀ (x y : Int32) (ls st : List Value) (G : mc_H), mc_ev X 180 538 ls (.int y :: .int x :: st) G = if x = y then mc_ev X 180 1224 ls st G else mc_ev X 180 541 ls st G) ∧
  (∀ (ls st : List Value) (G : mc_H), mc_ev X 180 541 ls st G = mc_ev X 180 542 ls (.int 0 :: st) G) ∧
  (∀ (v : Int32) (ls : List Value) (G : mc_H), (v = 0 ∨ v = 1) → mc_ev X 180 542 ls [.int v] G = some (some (.int v), G)) ∧
  (∀ (v0 v2 v3 : Value) (x : Nat) (st : List Value) (G : mc_H), mc_ev X 180 543 [v0, .ref x, v2, v3] st G = mc_ev X 180 544 [v0, .ref x, v2, v3] (.ref x :: st) G) ∧
  (∀ (v1 v2 v3 : Value) (x : UInt32) (st : List Value) (G : mc_H), mc_ev X 180 544 [.float x, v1, v2, v3] st G = mc_ev X 180 545 [.float x, v1, v2, v3] (.float x :: st) G) ∧
  (∀ (v0 v1 v2 : Value) (x : Int32) (st : List Value) (G : mc_H), mc_ev X 180 545 [v0, v1, v2, .int x] st G = mc_ev X 180 546 [v0, v1, v2, .int x] (.int x :: st) G) ∧
  (∀ (ls st : List Value) (G : mc_H), mc_ev X 180 546 ls st G = mc_ev X 180 547 ls (.int 1 :: st) G) ∧
  (∀ (x y : Int32) (ls st : List Value) (G : mc_H), mc_ev X 180 547 ls (.int y :: .int x :: st) G = mc_ev X 180 548 ls (.int (x + y) :: st) G) ∧
  (∀ (i : Int32) (r : Value) (ls st : List Value) (G : mc_H), mc_ev X 180 548 ls (.int i :: r :: st) G = (mc_getA X G 0 r i).bind (fun x => mc_ev X 180 549 ls (.int x :: st) G)) ∧
  (∀ (v1 v2 v3 : Value) (x : UInt32) (st : List Value) (G : mc_H), mc_ev X 180 549 [.float x, v1, v2, v3] st G = mc_ev X 180 550 [.float x, v1, v2, v3] (.float x :: st) G) ∧
  (∀ (v0 v1 v2 : Value) (x : Int32) (st : List Value) (G : mc_H), mc_ev X 180 550 [v0, v1, v2, .int x] st G = mc_ev X 180 551 [v0, v1, v2, .int x] (.int x :: st) G) ∧
  (∀ (ls st : List Value) (G : mc_H), mc_ev X 180 551 ls st G = mc_ev X 180 552 ls (.int 2 :: st) G) ∧
  (∀ (x y : Int32) (ls st : List Value) (G : mc_H), mc_ev X 180 552 ls (.int y :: .int x :: st) G = mc_ev X 180 553 ls (.int (x + y) :: st) G) ∧
  (∀ (i : Int32) (r : Value) (ls st : List Value) (G : mc_H), mc_ev X 180 553 ls (.int i :: r :: st) G = (mc_getA X G 0 r i).bind (fun x => mc_ev X 180 554 ls (.int x :: st) G)) ∧
  (∀ (a0 : Int32) (a1 : Int32) (r : Nat) (ls st : List Value) (G : mc_H), st.length ≤ 4 → mc_cls G r = some 7 → mc_ev X 180 554 ls (.int a1 :: .int a0 :: .ref r :: st) G = (mc_ev X 74 0 [.ref r, .int a0, .int a1] [] G).bind (fun q => mc_ev X 180 557 ls (q.1.toList ++ st) q.2)) ∧
  (∀ (v0 v1 v3 : Value) (x : Nat) (st : List Value) (G : mc_H), mc_ev X 180 557 [v0, v1, .ref x, v3] st G = mc_ev X 180 558 [v0, v1, .ref x, v3] (.ref x :: st) G) ∧
  (∀ (v1 v2 v3 : Value) (x : UInt32) (st : List Value) (G : mc_H), mc_ev X 180 558 [.float x, v1, v2, v3] st G = mc_ev X 180 559 [.float x, v1, v2, v3] (.float x :: st) G) ∧
  (∀ (v0 v1 v2 : Value) (x : Int32) (st : List Value) (G : mc_H), mc_ev X 180 559 [v0, v1, v2, .int x] st G = mc_ev X 180 560 [v0, v1, v2, .int x] (.int x :: st) G) ∧
  (∀ (ls st : List Value) (G : mc_H), mc_ev X 180 560 ls st G = mc_ev X 180 561 ls (.int 1 :: st) G) ∧
  (∀ (x y : Int32) (ls st : List Value) (G : mc_H), mc_ev X 180 561 ls (.int y :: .int x :: st) G = mc_ev X 180 562 ls (.int (x + y) :: st) G) ∧
  (∀ (i : Int32) (r : Value) (ls st : List Value) (G : mc_H), mc_ev X 180 562 ls (.int i :: r :: st) G = (mc_getA X G 0 r i).bind (fun x => mc_ev X 180 563 ls (.int x :: st) G)) ∧
  (∀ (v1 v2 v3 : Value) (x : UInt32) (st : List Value) (G : mc_H), mc_ev X 180 563 [.float x, v1, v2, v3] st G = mc_ev X 180 564 [.float x, v1, v2, v3] (.float x :: st) G) ∧
  (∀ (v0 v1 v2 : Value) (x : Int32) (st : List Value) (G : mc_H), mc_ev X 180 564 [v0, v1, v2, .int x] st G = mc_ev X 180 565 [v0, v1, v2, .int x] (.int x :: st) G) ∧
  (∀ (ls st : List Value) (G : mc_H), mc_ev X 180 565 ls st G = mc_ev X 180 566 ls (.int 2 :: st) G) ∧
  (∀ (x y : Int32) (ls st : List Value) (G : mc_H), mc_ev X 180 566 ls (.int y :: .int x :: st) G = mc_ev X 180 567 ls (.int (x + y) :: st) G) ∧
  (∀ (i : Int32) (r : Value) (ls st : List Value) (G : mc_H), mc_ev X 180 567 ls (.int i :: r :: st) G = (mc_getA X G 0 r i).bind (fun x => mc_ev X 180 568 ls (.int x :: st) G)) ∧
  (∀ (a0 : Int32) (a1 : Int32) (r : Nat) (ls st : List Value) (G : mc_H), st.length ≤ 4 → mc_cls G r = some 8 → mc_ev X 180 568 ls (.int a1 :: .int a0 :: .ref r :: st) G = (mc_ev X 146 0 [.ref r, .int a0, .int a1, .null, .null, .null, .null, .null, .null] [] G).bind (fun q => mc_ev X 180 571 ls (q.1.toList ++ st) q.2)) ∧
  (∀ (x y : Int32) (ls st : List Value) (G : mc_H), mc_ev X 180 571 ls (.int y :: .int x :: st) G = if x = y then mc_ev X 180 1224 ls st G else mc_ev X 180 574 ls st G) ∧
  (∀ (ls st : List Value) (G : mc_H), mc_ev X 180 574 ls st G = mc_ev X 180 575 ls (.int 0 :: st) G) ∧
  (∀ (v : Int32) (ls : List Value) (G : mc_H), (v = 0 ∨ v = 1) → mc_ev X 180 575 ls [.int v] G = some (some (.int v), G)) ∧
  (∀ (v0 v2 v3 : Value) (x : Nat) (st : List Value) (G : mc_H), mc_ev X 180 576 [v0, .ref x, v2, v3] st G = mc_ev X 180 577 [v0, .ref x, v2, v3] (.ref x :: st) G) ∧
  (∀ (r : Nat) (ls st : List Value) (G : mc_H), st.length ≤ 4 → mc_cls G r = some 7 → mc_ev X 180 577 ls (.ref r :: st) G = (mc_ev X 75 0 [.ref r] [] G).bind (fun q => mc_ev X 180 580 ls (q.1.toList ++ st) q.2)) ∧
  (∀ (v0 v1 v3 : Value) (x : Nat) (st : List Value) (G : mc_H), mc_ev X 180 580 [v0, v1, .ref x, v3] st G = mc_ev X 180 581 [v0, v1, .ref x, v3] (.ref x :: st) G) ∧
  (∀ (r : Nat) (ls st : List Value) (G : mc_H), st.length ≤ 4 → mc_cls G r = some 8 → mc_ev X 180 581 ls (.ref r :: st) G = (mc_ev X 147 0 [.ref r] [] G).bind (fun q => mc_ev X 180 584 ls (q.1.toList ++ st) q.2)) ∧
  (∀ (x y : Int32) (ls st : List Value) (G : mc_H), mc_ev X 180 584 ls (.int y :: .int x :: st) G = if x = y then mc_ev X 180 1224 ls st G else mc_ev X 180 587 ls st G) ∧
  (∀ (ls st : List Value) (G : mc_H), mc_ev X 180 587 ls st G = mc_ev X 180 588 ls (.int 0 :: st) G) ∧
  (∀ (v : Int32) (ls : List Value) (G : mc_H), (v = 0 ∨ v = 1) → mc_ev X 180 588 ls [.int v] G = some (some (.int v), G)) ∧
  (∀ (v0 v2 v3 : Value) (x : Nat) (st : List Value) (G : mc_H), mc_ev X 180 589 [v0, .ref x, v2, v3] st G = mc_ev X 180 590 [v0, .ref x, v2, v3] (.ref x :: st) G) := ⟨fun v0 v1 v2 x st G => ev_iload_n rfl rfl,
  fun ls st G => ev_iconst rfl rfl,
  fun x y ls st G => ev_iadd rfl,
  fun i r ls st G => ev_iaload rfl,
  fun v1 v2 v3 x st G => ev_aload_nF rfl rfl,
  fun v0 v1 v2 x st G => ev_iload_n rfl rfl,
  fun ls st G => ev_iconst rfl rfl,
  fun x y ls st G => ev_iadd rfl,
  fun i r ls st G => ev_iaload rfl,
  fun a0 a1 r ls st G hr hG => ev_virt (As := [.int a0, .int a1]) rfl rfl rfl rfl rfl rfl hr hG,
  fun v0 v1 v3 x st G => ev_aload_n rfl rfl,
  fun v1 v2 v3 x st G => ev_aload_nF rfl rfl,
  fun v0 v1 v2 x st G => ev_iload_n rfl rfl,
  fun ls st G => ev_iconst rfl rfl,
  fun x y ls st G => ev_iadd rfl,
  fun i r ls st G => ev_iaload rfl,
  fun v1 v2 v3 x st G => ev_aload_nF rfl rfl,
  fun v0 v1 v2 x st G => ev_iload_n rfl rfl,
  fun ls st G => ev_iconst rfl rfl,
  fun x y ls st G => ev_iadd rfl,
  fun i r ls st G => ev_iaload rfl,
  fun a0 a1 r ls st G hr hG => ev_virt (As := [.int a0, .int a1]) rfl rfl rfl rfl rfl rfl hr hG,
  fun x y ls st G => ev_br rfl rfl,
  fun ls st G => ev_iconst rfl rfl,
  fun v ls G hv => ev_zreturn rfl rfl hv,
  fun v0 v2 v3 x st G => ev_aload_n rfl rfl,
  fun v1 v2 v3 x st G => ev_aload_nF rfl rfl,
  fun v0 v1 v2 x st G => ev_iload_n rfl rfl,
  fun ls st G => ev_iconst rfl rfl,
  fun x y ls st G => ev_iadd rfl,
  fun i r ls st G => ev_iaload rfl,
  fun v1 v2 v3 x st G => ev_aload_nF rfl rfl,
  fun v0 v1 v2 x st G => ev_iload_n rfl rfl,
  fun ls st G => ev_iconst rfl rfl,
  fun x y ls st G => ev_iadd rfl,
  fun i r ls st G => ev_iaload rfl,
  fun a0 a1 r ls st G hr hG => ev_virt (As := [.int a0, .int a1]) rfl rfl rfl rfl rfl rfl hr hG,
  fun v0 v1 v3 x st G => ev_aload_n rfl rfl,
  fun v1 v2 v3 x st G => ev_aload_nF rfl rfl,
  fun v0 v1 v2 x st G => ev_iload_n rfl rfl,
  fun ls st G => ev_iconst rfl rfl,
  fun x y ls st G => ev_iadd rfl,
  fun i r ls st G => ev_iaload rfl,
  fun v1 v2 v3 x st G => ev_aload_nF rfl rfl,
  fun v0 v1 v2 x st G => ev_iload_n rfl rfl,
  fun ls st G => ev_iconst rfl rfl,
  fun x y ls st G => ev_iadd rfl,
  fun i r ls st G => ev_iaload rfl,
  fun a0 a1 r ls st G hr hG => ev_virt (As := [.int a0, .int a1]) rfl rfl rfl rfl rfl rfl hr hG,
  fun x y ls st G => ev_br rfl rfl,
  fun ls st G => ev_iconst rfl rfl,
  fun v ls G hv => ev_zreturn rfl rfl hv,
  fun v0 v2 v3 x st G => ev_aload_n rfl rfl,
  fun r ls st G hr hG => ev_virt (As := []) rfl rfl rfl rfl rfl rfl hr hG,
  fun v0 v1 v3 x st G => ev_aload_n rfl rfl,
  fun r ls st G hr hG => ev_virt (As := []) rfl rfl rfl rfl rfl rfl hr hG,
  fun x y ls st G => ev_br rfl rfl,
  fun ls st G => ev_iconst rfl rfl,
  fun v ls G hv => ev_zreturn rfl rfl hv,
  fun v0 v2 v3 x st G => ev_aload_n rfl rfl⟩
set_option maxRecDepth 100000 in
theorem e_180_6 {X : mc_X} : (∀ (v1 v2 v3 : Value) (x : UInt32) (st : List Value) (G : mc_H), mc_ev X 180 590 [.float x, v1, v2, v3] st G = mc_ev X 180 591 [.float x, v1, v2, v3] (.float x :: st) G) ∧
  (∀ (v0 v1 v2 : Value) (x : Int32) (st : List Value) (G : mc_H), mc_ev X 180 591 [v0, v1, v2, .int x] st G = mc_ev X 180 592 [v0, v1, v2, .int x] (.int x :: st) G) ∧
  (∀ (ls st : List Value) (G : mc_H), mc_ev X 180 592 ls st G = mc_ev X 180 593 ls (.int 1 :: st) G) ∧
  (∀ (x y : Int32) (ls st : List Value) (G : mc_H), mc_ev X 180 593 ls (.int y :: .int x :: st) G = mc_ev X 180 594 ls (.int (x + y) :: st) G) ∧
  (∀ (i : Int32) (r : Value) (ls st : List Value) (G : mc_H), mc_ev X 180 594 ls (.int i :: r :: st) G = (mc_getA X G 0 r i).bind (fun x => mc_ev X 180 595 ls (.int x :: st) G)) ∧
  (∀ (a0 : Int32) (r : Nat) (ls st : List Value) (G : mc_H), st.length ≤ 4 → mc_cls G r = some 7 → mc_ev X 180 595 ls (.int a0 :: .ref r :: st) G = (mc_ev X 76 0 [.ref r, .int a0] [] G).bind (fun q => mc_ev X 180 598 ls (q.1.toList ++ st) q.2)) ∧
  (∀ (v0 v1 v3 : Value) (x : Nat) (st : List Value) (G : mc_H), mc_ev X 180 598 [v0, v1, .ref x, v3] st G = mc_ev X 180 599 [v0, v1, .ref x, v3] (.ref x :: st) G) ∧
  (∀ (v1 v2 v3 : Value) (x : UInt32) (st : List Value) (G : mc_H), mc_ev X 180 599 [.float x, v1, v2, v3] st G = mc_ev X 180 600 [.float x, v1, v2, v3] (.float x :: st) G) ∧
  (∀ (v0 v1 v2 : Value) (x : Int32) (st : List Value) (G : mc_H), mc_ev X 180 600 [v0, v1, v2, .int x] st G = mc_ev X 180 601 [v0, v1, v2, .int x] (.int x :: st) G) ∧
  (∀ (ls st : List Value) (G : mc_H), mc_ev X 180 601 ls st G = mc_ev X 180 602 ls (.int 1 :: st) G) ∧
  (∀ (x y : Int32) (ls st : List Value) (G : mc_H), mc_ev X 180 602 ls (.int y :: .int x :: st) G = mc_ev X 180 603 ls (.int (x + y) :: st) G) ∧
  (∀ (i : Int32) (r : Value) (ls st : List Value) (G : mc_H), mc_ev X 180 603 ls (.int i :: r :: st) G = (mc_getA X G 0 r i).bind (fun x => mc_ev X 180 604 ls (.int x :: st) G)) ∧
  (∀ (a0 : Int32) (r : Nat) (ls st : List Value) (G : mc_H), st.length ≤ 4 → mc_cls G r = some 8 → mc_ev X 180 604 ls (.int a0 :: .ref r :: st) G = (mc_ev X 149 0 [.ref r, .int a0] [] G).bind (fun q => mc_ev X 180 607 ls (q.1.toList ++ st) q.2)) ∧
  (∀ (x y : Int32) (ls st : List Value) (G : mc_H), mc_ev X 180 607 ls (.int y :: .int x :: st) G = if x = y then mc_ev X 180 1224 ls st G else mc_ev X 180 610 ls st G) ∧
  (∀ (ls st : List Value) (G : mc_H), mc_ev X 180 610 ls st G = mc_ev X 180 611 ls (.int 0 :: st) G) ∧
  (∀ (v : Int32) (ls : List Value) (G : mc_H), (v = 0 ∨ v = 1) → mc_ev X 180 611 ls [.int v] G = some (some (.int v), G)) ∧
  (∀ (v0 v2 v3 : Value) (x : Nat) (st : List Value) (G : mc_H), mc_ev X 180 612 [v0, .ref x, v2, v3] st G = mc_ev X 180 613 [v0, .ref x, v2, v3] (.ref x :: st) G) ∧
  (∀ (v1 v2 v3 : Value) (x : UInt32) (st : List Value) (G : mc_H), mc_ev X 180 613 [.float x, v1, v2, v3] st G = mc_ev X 180 614 [.float x, v1, v2, v3] (.float x :: st) G) ∧
  (∀ (v0 v1 v2 : Value) (x : Int32) (st : List Value) (G : mc_H), mc_ev X 180 614 [v0, v1, v2, .int x] st G = mc_ev X 180 615 [v0, v1, v2, .int x] (.int x :: st) G) ∧
  (∀ (ls st : List Value) (G : mc_H), mc_ev X 180 615 ls st G = mc_ev X 180 616 ls (.int 1 :: st) G) ∧
  (∀ (x y : Int32) (ls st : List Value) (G : mc_H), mc_ev X 180 616 ls (.int y :: .int x :: st) G = mc_ev X 180 617 ls (.int (x + y) :: st) G) ∧
  (∀ (i : Int32) (r : Value) (ls st : List Value) (G : mc_H), mc_ev X 180 617 ls (.int i :: r :: st) G = (mc_getA X G 0 r i).bind (fun x => mc_ev X 180 618 ls (.int x :: st) G)) ∧
  (∀ (v1 v2 v3 : Value) (x : UInt32) (st : List Value) (G : mc_H), mc_ev X 180 618 [.float x, v1, v2, v3] st G = mc_ev X 180 619 [.float x, v1, v2, v3] (.float x :: st) G) ∧
  (∀ (v0 v1 v2 : Value) (x : Int32) (st : List Value) (G : mc_H), mc_ev X 180 619 [v0, v1, v2, .int x] st G = mc_ev X 180 620 [v0, v1, v2, .int x] (.int x :: st) G) ∧
  (∀ (ls st : List Value) (G : mc_H), mc_ev X 180 620 ls st G = mc_ev X 180 621 ls (.int 2 :: st) G) ∧
  (∀ (x y : Int32) (ls st : List Value) (G : mc_H), mc_ev X 180 621 ls (.int y :: .int x :: st) G = mc_ev X 180 622 ls (.int (x + y) :: st) G) ∧
  (∀ (i : Int32) (r : Value) (ls st : List Value) (G : mc_H), mc_ev X 180 622 ls (.int i :: r :: st) G = (mc_getA X G 0 r i).bind (fun x => mc_ev X 180 623 ls (.int x :: st) G)) ∧
  (∀ (a0 : Int32) (a1 : Int32) (r : Nat) (ls st : List Value) (G : mc_H), st.length ≤ 4 → mc_cls G r = some 7 → mc_ev X 180 623 ls (.int a1 :: .int a0 :: .ref r :: st) G = (mc_ev X 77 0 [.ref r, .int a0, .int a1] [] G).bind (fun q => mc_ev X 180 626 ls (q.1.toList ++ st) q.2)) ∧
  (∀ (v0 v1 v3 : Value) (x : Nat) (st : List Value) (G : mc_H), mc_ev X 180 626 [v0, v1, .ref x, v3] st G = mc_ev X 180 627 [v0, v1, .ref x, v3] (.ref x :: st) G) ∧
  (∀ (v1 v2 v3 : Value) (x : UInt32) (st : List Value) (G : mc_H), mc_ev X 180 627 [.float x, v1, v2, v3] st G = mc_ev X 180 628 [.float x, v1, v2, v3] (.float x :: st) G) ∧
  (∀ (v0 v1 v2 : Value) (x : Int32) (st : List Value) (G : mc_H), mc_ev X 180 628 [v0, v1, v2, .int x] st G = mc_ev X 180 629 [v0, v1, v2, .int x] (.int x :: st) G) ∧
  (∀ (ls st : List Value) (G : mc_H), mc_ev X 180 629 ls st G = mc_ev X 180 630 ls (.int 1 :: st) G) ∧
  (∀ (x y : Int32) (ls st : List Value) (G : mc_H), mc_ev X 180 630 ls (.int y :: .int x :: st) G = mc_ev X 180 631 ls (.int (x + y) :: st) G) ∧
  (∀ (i : Int32) (r : Value) (ls st : List Value) (G : mc_H), mc_ev X 180 631 ls (.int i :: r :: st) G = (mc_getA X G 0 r i).bind (fun x => mc_ev X 180 632 ls (.int x :: st) G)) ∧
  (∀ (v1 v2 v3 : Value) (x : UInt32) (st : List Value) (G : mc_H), mc_ev X 180 632 [.float x, v1, v2, v3] st G = mc_ev X 180 633 [.float x, v1, v2, v3] (.float x :: st) G) ∧
  (∀ (v0 v1 v2 : Value) (x : Int32) (st : List Value) (G : mc_H), mc_ev X 180 633 [v0, v1, v2, .int x] st G = mc_ev X 180 634 [v0, v1, v2, .int x] (.int x :: st) G) ∧
  (∀ (ls st : List Value) (G : mc_H), mc_ev X 180 634 ls st G = mc_ev X 180 635 ls (.int 2 :: st) G) ∧
  (∀ (x y : Int32) (ls st : List Value) (G : mc_H), mc_ev X 180 635 ls (.int y :: .int x :: st) G = mc_ev X 180 636 ls (.int (x + y) :: st) G) ∧
  (∀ (i : Int32) (r : Value) (ls st : List Value) (G : mc_H), mc_ev X 180 636 ls (.int i :: r :: st) G = (mc_getA X G 0 r i).bind (fun x => mc_ev X 180 637 ls (.int x :: st) G)) ∧
  (∀ (a0 : Int32) (a1 : Int32) (r : Nat) (ls st : List Value) (G : mc_H), st.length ≤ 4 → mc_cls G r = some 8 → mc_ev X 180 637 ls (.int a1 :: .int a0 :: .ref r :: st) G = (mc_ev X 151 0 [.ref r, .int a0, .int a1] [] G).bind (fun q => mc_ev X 180 640 ls (q.1.toList ++ st) q.2)) ∧
  (∀ (x y : Int32) (ls st : List Value) (G : mc_H), mc_ev X 180 640 ls (.int y :: .int x :: st) G = if x = y then mc_ev X 180 1224 ls st G else mc_ev X 180 643 ls st G) ∧
  (∀ (ls st : List Value) (G : mc_H), mc_ev X 180 643 ls st G = mc_ev X 180 644 ls (.int 0 :: st) G) ∧
  (∀ (v : Int32) (ls : List Value) (G : mc_H), (v = 0 ∨ v = 1) → mc_ev X 180 644 ls [.int v] G = some (some (.int v), G)) ∧
  (∀ (v0 v2 v3 : Value) (x : Nat) (st : List Value) (G : mc_H), mc_ev X 180 645 [v0, .ref x, v2, v3] st G = mc_ev X 180 646 [v0, .ref x, v2, v3] (.ref x :: st) G) ∧
  (∀ (r : Nat) (ls st : List Value) (G : mc_H), st.length ≤ 4 → mc_cls G r = some 7 → mc_ev X 180 646 ls (.ref r :: st) G = (mc_ev X 78 0 [.ref r] [] G).bind (fun q => mc_ev X 180 649 ls (q.1.toList ++ st) q.2)) ∧
  (∀ (v0 v1 v3 : Value) (x : Nat) (st : List Value) (G : mc_H), mc_ev X 180 649 [v0, v1, .ref x, v3] st G = mc_ev X 180 650 [v0, v1, .ref x, v3] (.ref x :: st) G) ∧
  (∀ (r : Nat) (ls st : List Value) (G : mc_H), st.length ≤ 4 → mc_cls G r = some 8 → mc_ev X 180 650 ls (.ref r :: st) G = (mc_ev X 152 0 [.ref r, .null, .null, .null, .null, .null] [] G).bind (fun q => mc_ev X 180 653 ls (q.1.toList ++ st) q.2)) ∧
  (∀ (x y : Int32) (ls st : List Value) (G : mc_H), mc_ev X 180 653 ls (.int y :: .int x :: st) G = if x = y then mc_ev X 180 1224 ls st G else mc_ev X 180 656 ls st G) ∧
  (∀ (ls st : List Value) (G : mc_H), mc_ev X 180 656 ls st G = mc_ev X 180 657 ls (.int 0 :: st) G) ∧
  (∀ (v : Int32) (ls : List Value) (G : mc_H), (v = 0 ∨ v = 1) → mc_ev X 180 657 ls [.int v] G = some (some (.int v), G)) ∧
  (∀ (v0 v2 v3 : Value) (x : Nat) (st : List Value) (G : mc_H), mc_ev X 180 658 [v0, .ref x, v2, v3] st G = mc_ev X 180 659 [v0, .ref x, v2, v3] (.ref x :: st) G) ∧
  (∀ (v1 v2 v3 : Value) (x : UInt32) (st : List Value) (G : mc_H), mc_ev X 180 659 [.float x, v1, v2, v3] st G = mc_ev X 180 660 [.float x, v1, v2, v3] (.float x :: st) G) ∧
  (∀ (v0 v1 v2 : Value) (x : Int32) (st : List Value) (G : mc_H), mc_ev X 180 660 [v0, v1, v2, .int x] st G = mc_ev X 180 661 [v0, v1, v2, .int x] (.int x :: st) G) ∧
  (∀ (ls st : List Value) (G : mc_H), mc_ev X 180 661 ls st G = mc_ev X 180 662 ls (.int 1 :: st) G) ∧
  (∀ (x y : Int32) (ls st : List Value) (G : mc_H), mc_ev X 180 662 ls (.int y :: .int x :: st) G = mc_ev X 180 663 ls (.int (x + y) :: st) G) ∧
  (∀ (i : Int32) (r : Value) (ls st : List Value) (G : mc_H), mc_ev X 180 663 ls (.int i :: r :: st) G = (mc_getA X G 0 r i).bind (fun x => mc_ev X 180 664 ls (.int x :: st) G)) ∧
  (∀ (a0 : Int32) (r : Nat) (ls st : List Value) (G : mc_H), st.length ≤ 4 → mc_cls G r = some 7 → mc_ev X 180 664 ls (.int a0 :: .ref r :: st) G = (mc_ev X 79 0 [.ref r, .int a0] [] G).bind (fun q => mc_ev X 180 667 ls (q.1.toList ++ st) q.2)) ∧
  (∀ (v0 v1 v3 : Value) (x : Nat) (st : List Value) (G : mc_H), mc_ev X 180 667 [v0, v1, .ref x, v3] st G = mc_ev X 180 668 [v0, v1, .ref x, v3] (.ref x :: st) G) ∧
  (∀ (v1 v2 v3 : Value) (x : UInt32) (st : List Value) (G : mc_H), mc_ev X 180 668 [.float x, v1, v2, v3] st G = mc_ev X 180 669 [.float x, v1, v2, v3] (.float x :: st) G) ∧
  (∀ (v0 v1 v2 : Value) (x : Int32) (st : List Value) (G : mc_H), mc_ev X 180 669 [v0, v1, v2, .int x] st G = mc_ev X 180 670 [v0, v1, v2, .int x] (.int x :: st) G) := ⟨fun v1 v2 v3 x st G => ev_aload_nF rfl rfl,
  fun v0 v1 v2 x st G => ev_iload_n rfl rfl,
  fun ls st G => ev_iconst rfl rfl,
  fun x y ls st G => ev_iadd rfl,
  fun i r ls st G => ev_iaload rfl,
  fun a0 r ls st G hr hG => ev_virt (As := [.int a0]) rfl rfl rfl rfl rfl rfl hr hG,
  fun v0 v1 v3 x st G => ev_aload_n rfl rfl,
  fun v1 v2 v3 x st G => ev_aload_nF rfl rfl,
  fun v0 v1 v2 x st G => ev_iload_n rfl rfl,
  fun ls st G => ev_iconst rfl rfl,
  fun x y ls st G => ev_iadd rfl,
  fun i r ls st G => ev_iaload rfl,
  fun a0 r ls st G hr hG => ev_virt (As := [.int a0]) rfl rfl rfl rfl rfl rfl hr hG,
  fun x y ls st G => ev_br rfl rfl,
  fun ls st G => ev_iconst rfl rfl,
  fun v ls G hv => ev_zreturn rfl rfl hv,
  fun v0 v2 v3 x st G => ev_aload_n rfl rfl,
  fun v1 v2 v3 x st G => ev_aload_nF rfl rfl,
  fun v0 v1 v2 x st G => ev_iload_n rfl rfl,
  fun ls st G => ev_iconst rfl rfl,
  fun x y ls st G => ev_iadd rfl,
  fun i r ls st G => ev_iaload rfl,
  fun v1 v2 v3 x st G => ev_aload_nF rfl rfl,
  fun v0 v1 v2 x st G => ev_iload_n rfl rfl,
  fun ls st G => ev_iconst rfl rfl,
  fun x y ls st G => ev_iadd rfl,
  fun i r ls st G => ev_iaload rfl,
  fun a0 a1 r ls st G hr hG => ev_virt (As := [.int a0, .int a1]) rfl rfl rfl rfl rfl rfl hr hG,
  fun v0 v1 v3 x st G => ev_aload_n rfl rfl,
  fun v1 v2 v3 x st G => ev_aload_nF rfl rfl,
  fun v0 v1 v2 x st G => ev_iload_n rfl rfl,
  fun ls st G => ev_iconst rfl rfl,
  fun x y ls st G => ev_iadd rfl,
  fun i r ls st G => ev_iaload rfl,
  fun v1 v2 v3 x st G => ev_aload_nF rfl rfl,
  fun v0 v1 v2 x st G => ev_iload_n rfl rfl,
  fun ls st G => ev_iconst rfl rfl,
  fun x y ls st G => ev_iadd rfl,
  fun i r ls st G => ev_iaload rfl,
  fun a0 a1 r ls st G hr hG => ev_virt (As := [.int a0, .int a1]) rfl rfl rfl rfl rfl rfl hr hG,
  fun x y ls st G => ev_br rfl rfl,
  fun ls st G => ev_iconst rfl rfl,
  fun v ls G hv => ev_zreturn rfl rfl hv,
  fun v0 v2 v3 x st G => ev_aload_n rfl rfl,
  fun r ls st G hr hG => ev_virt (As := []) rfl rfl rfl rfl rfl rfl hr hG,
  fun v0 v1 v3 x st G => ev_aload_n rfl rfl,
  fun r ls st G hr hG => ev_virt (As := []) rfl rfl rfl rfl rfl rfl hr hG,
  fun x y ls st G => ev_br rfl rfl,
  fun ls st G => ev_iconst rfl rfl,
  fun v ls G hv => ev_zreturn rfl rfl hv,
  fun v0 v2 v3 x st G => ev_aload_n rfl rfl,
  fun v1 v2 v3 x st G => ev_aload_nF rfl rfl,
  fun v0 v1 v2 x st G => ev_iload_n rfl rfl,
  fun ls st G => ev_iconst rfl rfl,
  fun x y ls st G => ev_iadd rfl,
  fun i r ls st G => ev_iaload rfl,
  fun a0 r ls st G hr hG => ev_virt (As := [.int a0]) rfl rfl rfl rfl rfl rfl hr hG,
  fun v0 v1 v3 x st G => ev_aload_n rfl rfl,
  fun v1 v2 v3 x st G => ev_aload_nF rfl rfl,
  fun v0 v1 v2 x st G => ev_iload_n rfl rfl⟩
set_option maxRecDepth 100000 in
theorem e_180_7 {X : mc_X} : (∀ (ls st : List Value) (G : mc_H), mc_ev X 180 670 ls st G = mc_ev X 180 671 ls (.int 1 :: st) G) ∧
  (∀ (x y : Int32) (ls st : List Value) (G : mc_H), mc_ev X 180 671 ls (.int y :: .int x :: st) G = mc_ev X 180 672 ls (.int (x + y) :: st) G) ∧
  (∀ (i : Int32) (r : Value) (ls st : List Value) (G : mc_H), mc_ev X 180 672 ls (.int i :: r :: st) G = (mc_getA X G 0 r i).bind (fun x => mc_ev X 180 673 ls (.int x :: st) G)) ∧
  (∀ (a0 : Int32) (r : Nat) (ls st : List Value) (G : mc_H), st.length ≤ 4 → mc_cls G r = some 8 → mc_ev X 180 673 ls (.int a0 :: .ref r :: st) G = (mc_ev X 153 0 [.ref r, .int a0] [] G).bind (fun q => mc_ev X 180 676 ls (q.1.toList ++ st) q.2)) ∧
  (∀ (x y : Int32) (ls st : List Value) (G : mc_H), mc_ev X 180 676 ls (.int y :: .int x :: st) G = if x = y then mc_ev X 180 1224 ls st G else mc_ev X 180 679 ls st G) ∧
  (∀ (ls st : List Value) (G : mc_H), mc_ev X 180 679 ls st G = mc_ev X 180 680 ls (.int 0 :: st) G) ∧
  (∀ (v : Int32) (ls : List Value) (G : mc_H), (v = 0 ∨ v = 1) → mc_ev X 180 680 ls [.int v] G = some (some (.int v), G)) ∧
  (∀ (v0 v2 v3 : Value) (x : Nat) (st : List Value) (G : mc_H), mc_ev X 180 681 [v0, .ref x, v2, v3] st G = mc_ev X 180 682 [v0, .ref x, v2, v3] (.ref x :: st) G) ∧
  (∀ (r : Nat) (ls st : List Value) (G : mc_H), st.length ≤ 4 → mc_cls G r = some 7 → mc_ev X 180 682 ls (.ref r :: st) G = (mc_ev X 80 0 [.ref r] [] G).bind (fun q => mc_ev X 180 685 ls (q.1.toList ++ st) q.2)) ∧
  (∀ (v0 v1 v3 : Value) (x : Nat) (st : List Value) (G : mc_H), mc_ev X 180 685 [v0, v1, .ref x, v3] st G = mc_ev X 180 686 [v0, v1, .ref x, v3] (.ref x :: st) G) ∧
  (∀ (r : Nat) (ls st : List Value) (G : mc_H), st.length ≤ 4 → mc_cls G r = some 8 → mc_ev X 180 686 ls (.ref r :: st) G = (mc_ev X 155 0 [.ref r] [] G).bind (fun q => mc_ev X 180 689 ls (q.1.toList ++ st) q.2)) ∧
  (∀ (x y : Int32) (ls st : List Value) (G : mc_H), mc_ev X 180 689 ls (.int y :: .int x :: st) G = if x = y then mc_ev X 180 1224 ls st G else mc_ev X 180 692 ls st G) ∧
  (∀ (ls st : List Value) (G : mc_H), mc_ev X 180 692 ls st G = mc_ev X 180 693 ls (.int 0 :: st) G) ∧
  (∀ (v : Int32) (ls : List Value) (G : mc_H), (v = 0 ∨ v = 1) → mc_ev X 180 693 ls [.int v] G = some (some (.int v), G)) ∧
  (∀ (v0 v2 v3 : Value) (x : Nat) (st : List Value) (G : mc_H), mc_ev X 180 694 [v0, .ref x, v2, v3] st G = mc_ev X 180 695 [v0, .ref x, v2, v3] (.ref x :: st) G) ∧
  (∀ (r : Nat) (ls st : List Value) (G : mc_H), st.length ≤ 4 → mc_cls G r = some 7 → mc_ev X 180 695 ls (.ref r :: st) G = (mc_ev X 81 0 [.ref r, .null] [] G).bind (fun q => mc_ev X 180 698 ls (q.1.toList ++ st) q.2)) ∧
  (∀ (v0 v1 v3 : Value) (x : Nat) (st : List Value) (G : mc_H), mc_ev X 180 698 [v0, v1, .ref x, v3] st G = mc_ev X 180 699 [v0, v1, .ref x, v3] (.ref x :: st) G) ∧
  (∀ (r : Nat) (ls st : List Value) (G : mc_H), st.length ≤ 4 → mc_cls G r = some 8 → mc_ev X 180 699 ls (.ref r :: st) G = (mc_ev X 157 0 [.ref r] [] G).bind (fun q => mc_ev X 180 702 ls (q.1.toList ++ st) q.2)) ∧
  (∀ (x y : Int32) (ls st : List Value) (G : mc_H), mc_ev X 180 702 ls (.int y :: .int x :: st) G = if x = y then mc_ev X 180 1224 ls st G else mc_ev X 180 705 ls st G) ∧
  (∀ (ls st : List Value) (G : mc_H), mc_ev X 180 705 ls st G = mc_ev X 180 706 ls (.int 0 :: st) G) ∧
  (∀ (v : Int32) (ls : List Value) (G : mc_H), (v = 0 ∨ v = 1) → mc_ev X 180 706 ls [.int v] G = some (some (.int v), G)) ∧
  (∀ (v0 v2 v3 : Value) (x : Nat) (st : List Value) (G : mc_H), mc_ev X 180 707 [v0, .ref x, v2, v3] st G = mc_ev X 180 708 [v0, .ref x, v2, v3] (.ref x :: st) G) ∧
  (∀ (v1 v2 v3 : Value) (x : UInt32) (st : List Value) (G : mc_H), mc_ev X 180 708 [.float x, v1, v2, v3] st G = mc_ev X 180 709 [.float x, v1, v2, v3] (.float x :: st) G) ∧
  (∀ (v0 v1 v2 : Value) (x : Int32) (st : List Value) (G : mc_H), mc_ev X 180 709 [v0, v1, v2, .int x] st G = mc_ev X 180 710 [v0, v1, v2, .int x] (.int x :: st) G) ∧
  (∀ (ls st : List Value) (G : mc_H), mc_ev X 180 710 ls st G = mc_ev X 180 711 ls (.int 1 :: st) G) ∧
  (∀ (x y : Int32) (ls st : List Value) (G : mc_H), mc_ev X 180 711 ls (.int y :: .int x :: st) G = mc_ev X 180 712 ls (.int (x + y) :: st) G) ∧
  (∀ (i : Int32) (r : Value) (ls st : List Value) (G : mc_H), mc_ev X 180 712 ls (.int i :: r :: st) G = (mc_getA X G 0 r i).bind (fun x => mc_ev X 180 713 ls (.int x :: st) G)) ∧
  (∀ (a0 : Int32) (r : Nat) (ls st : List Value) (G : mc_H), st.length ≤ 4 → mc_cls G r = some 7 → mc_ev X 180 713 ls (.int a0 :: .ref r :: st) G = (mc_ev X 82 0 [.ref r, .int a0, .null] [] G).bind (fun q => mc_ev X 180 716 ls (q.1.toList ++ st) q.2)) ∧
  (∀ (v0 v1 v3 : Value) (x : Nat) (st : List Value) (G : mc_H), mc_ev X 180 716 [v0, v1, .ref x, v3] st G = mc_ev X 180 717 [v0, v1, .ref x, v3] (.ref x :: st) G) ∧
  (∀ (v1 v2 v3 : Value) (x : UInt32) (st : List Value) (G : mc_H), mc_ev X 180 717 [.float x, v1, v2, v3] st G = mc_ev X 180 718 [.float x, v1, v2, v3] (.float x :: st) G) ∧
  (∀ (v0 v1 v2 : Value) (x : Int32) (st : List Value) (G : mc_H), mc_ev X 180 718 [v0, v1, v2, .int x] st G = mc_ev X 180 719 [v0, v1, v2, .int x] (.int x :: st) G) ∧
  (∀ (ls st : List Value) (G : mc_H), mc_ev X 180 719 ls st G = mc_ev X 180 720 ls (.int 1 :: st) G) ∧
  (∀ (x y : Int32) (ls st : List Value) (G : mc_H), mc_ev X 180 720 ls (.int y :: .int x :: st) G = mc_ev X 180 721 ls (.int (x + y) :: st) G) ∧
  (∀ (i : Int32) (r : Value) (ls st : List Value) (G : mc_H), mc_ev X 180 721 ls (.int i :: r :: st) G = (mc_getA X G 0 r i).bind (fun x => mc_ev X 180 722 ls (.int x :: st) G)) ∧
  (∀ (a0 : Int32) (r : Nat) (ls st : List Value) (G : mc_H), st.length ≤ 4 → mc_cls G r = some 8 → mc_ev X 180 722 ls (.int a0 :: .ref r :: st) G = (mc_ev X 158 0 [.ref r, .int a0] [] G).bind (fun q => mc_ev X 180 725 ls (q.1.toList ++ st) q.2)) ∧
  (∀ (x y : Int32) (ls st : List Value) (G : mc_H), mc_ev X 180 725 ls (.int y :: .int x :: st) G = if x = y then mc_ev X 180 1224 ls st G else mc_ev X 180 728 ls st G) ∧
  (∀ (ls st : List Value) (G : mc_H), mc_ev X 180 728 ls st G = mc_ev X 180 729 ls (.int 0 :: st) G) ∧
  (∀ (v : Int32) (ls : List Value) (G : mc_H), (v = 0 ∨ v = 1) → mc_ev X 180 729 ls [.int v] G = some (some (.int v), G)) ∧
  (∀ (v0 v2 v3 : Value) (x : Nat) (st : List Value) (G : mc_H), mc_ev X 180 730 [v0, .ref x, v2, v3] st G = mc_ev X 180 731 [v0, .ref x, v2, v3] (.ref x :: st) G) ∧
  (∀ (v1 v2 v3 : Value) (x : UInt32) (st : List Value) (G : mc_H), mc_ev X 180 731 [.float x, v1, v2, v3] st G = mc_ev X 180 732 [.float x, v1, v2, v3] (.float x :: st) G) ∧
  (∀ (v0 v1 v2 : Value) (x : Int32) (st : List Value) (G : mc_H), mc_ev X 180 732 [v0, v1, v2, .int x] st G = mc_ev X 180 733 [v0, v1, v2, .int x] (.int x :: st) G) ∧
  (∀ (ls st : List Value) (G : mc_H), mc_ev X 180 733 ls st G = mc_ev X 180 734 ls (.int 1 :: st) G) ∧
  (∀ (x y : Int32) (ls st : List Value) (G : mc_H), mc_ev X 180 734 ls (.int y :: .int x :: st) G = mc_ev X 180 735 ls (.int (x + y) :: st) G) ∧
  (∀ (i : Int32) (r : Value) (ls st : List Value) (G : mc_H), mc_ev X 180 735 ls (.int i :: r :: st) G = (mc_getA X G 0 r i).bind (fun x => mc_ev X 180 736 ls (.int x :: st) G)) ∧
  (∀ (a0 : Int32) (r : Nat) (ls st : List Value) (G : mc_H), st.length ≤ 4 → mc_cls G r = some 7 → mc_ev X 180 736 ls (.int a0 :: .ref r :: st) G = (mc_ev X 83 0 [.ref r, .int a0, .null, .null] [] G).bind (fun q => mc_ev X 180 739 ls (q.1.toList ++ st) q.2)) ∧
  (∀ (v0 v1 v3 : Value) (x : Nat) (st : List Value) (G : mc_H), mc_ev X 180 739 [v0, v1, .ref x, v3] st G = mc_ev X 180 740 [v0, v1, .ref x, v3] (.ref x :: st) G) ∧
  (∀ (v1 v2 v3 : Value) (x : UInt32) (st : List Value) (G : mc_H), mc_ev X 180 740 [.float x, v1, v2, v3] st G = mc_ev X 180 741 [.float x, v1, v2, v3] (.float x :: st) G) ∧
  (∀ (v0 v1 v2 : Value) (x : Int32) (st : List Value) (G : mc_H), mc_ev X 180 741 [v0, v1, v2, .int x] st G = mc_ev X 180 742 [v0, v1, v2, .int x] (.int x :: st) G) ∧
  (∀ (ls st : List Value) (G : mc_H), mc_ev X 180 742 ls st G = mc_ev X 180 743 ls (.int 1 :: st) G) ∧
  (∀ (x y : Int32) (ls st : List Value) (G : mc_H), mc_ev X 180 743 ls (.int y :: .int x :: st) G = mc_ev X 180 744 ls (.int (x + y) :: st) G) ∧
  (∀ (i : Int32) (r : Value) (ls st : List Value) (G : mc_H), mc_ev X 180 744 ls (.int i :: r :: st) G = (mc_getA X G 0 r i).bind (fun x => mc_ev X 180 745 ls (.int x :: st) G)) ∧
  (∀ (a0 : Int32) (r : Nat) (ls st : List Value) (G : mc_H), st.length ≤ 4 → mc_cls G r = some 8 → mc_ev X 180 745 ls (.int a0 :: .ref r :: st) G = (mc_ev X 159 0 [.ref r, .int a0, .null, .null, .null, .null, .null] [] G).bind (fun q => mc_ev X 180 748 ls (q.1.toList ++ st) q.2)) ∧
  (∀ (x y : Int32) (ls st : List Value) (G : mc_H), mc_ev X 180 748 ls (.int y :: .int x :: st) G = if x = y then mc_ev X 180 1224 ls st G else mc_ev X 180 751 ls st G) ∧
  (∀ (ls st : List Value) (G : mc_H), mc_ev X 180 751 ls st G = mc_ev X 180 752 ls (.int 0 :: st) G) ∧
  (∀ (v : Int32) (ls : List Value) (G : mc_H), (v = 0 ∨ v = 1) → mc_ev X 180 752 ls [.int v] G = some (some (.int v), G)) ∧
  (∀ (v0 v2 v3 : Value) (x : Nat) (st : List Value) (G : mc_H), mc_ev X 180 753 [v0, .ref x, v2, v3] st G = mc_ev X 180 754 [v0, .ref x, v2, v3] (.ref x :: st) G) ∧
  (∀ (v1 v2 v3 : Value) (x : UInt32) (st : List Value) (G : mc_H), mc_ev X 180 754 [.float x, v1, v2, v3] st G = mc_ev X 180 755 [.float x, v1, v2, v3] (.float x :: st) G) ∧
  (∀ (v0 v1 v2 : Value) (x : Int32) (st : List Value) (G : mc_H), mc_ev X 180 755 [v0, v1, v2, .int x] st G = mc_ev X 180 756 [v0, v1, v2, .int x] (.int x :: st) G) ∧
  (∀ (ls st : List Value) (G : mc_H), mc_ev X 180 756 ls st G = mc_ev X 180 757 ls (.int 1 :: st) G) ∧
  (∀ (x y : Int32) (ls st : List Value) (G : mc_H), mc_ev X 180 757 ls (.int y :: .int x :: st) G = mc_ev X 180 758 ls (.int (x + y) :: st) G) := ⟨fun ls st G => ev_iconst rfl rfl,
  fun x y ls st G => ev_iadd rfl,
  fun i r ls st G => ev_iaload rfl,
  fun a0 r ls st G hr hG => ev_virt (As := [.int a0]) rfl rfl rfl rfl rfl rfl hr hG,
  fun x y ls st G => ev_br rfl rfl,
  fun ls st G => ev_iconst rfl rfl,
  fun v ls G hv => ev_zreturn rfl rfl hv,
  fun v0 v2 v3 x st G => ev_aload_n rfl rfl,
  fun r ls st G hr hG => ev_virt (As := []) rfl rfl rfl rfl rfl rfl hr hG,
  fun v0 v1 v3 x st G => ev_aload_n rfl rfl,
  fun r ls st G hr hG => ev_virt (As := []) rfl rfl rfl rfl rfl rfl hr hG,
  fun x y ls st G => ev_br rfl rfl,
  fun ls st G => ev_iconst rfl rfl,
  fun v ls G hv => ev_zreturn rfl rfl hv,
  fun v0 v2 v3 x st G => ev_aload_n rfl rfl,
  fun r ls st G hr hG => ev_virt (As := []) rfl rfl rfl rfl rfl rfl hr hG,
  fun v0 v1 v3 x st G => ev_aload_n rfl rfl,
  fun r ls st G hr hG => ev_virt (As := []) rfl rfl rfl rfl rfl rfl hr hG,
  fun x y ls st G => ev_br rfl rfl,
  fun ls st G => ev_iconst rfl rfl,
  fun v ls G hv => ev_zreturn rfl rfl hv,
  fun v0 v2 v3 x st G => ev_aload_n rfl rfl,
  fun v1 v2 v3 x st G => ev_aload_nF rfl rfl,
  fun v0 v1 v2 x st G => ev_iload_n rfl rfl,
  fun ls st G => ev_iconst rfl rfl,
  fun x y ls st G => ev_iadd rfl,
  fun i r ls st G => ev_iaload rfl,
  fun a0 r ls st G hr hG => ev_virt (As := [.int a0]) rfl rfl rfl rfl rfl rfl hr hG,
  fun v0 v1 v3 x st G => ev_aload_n rfl rfl,
  fun v1 v2 v3 x st G => ev_aload_nF rfl rfl,
  fun v0 v1 v2 x st G => ev_iload_n rfl rfl,
  fun ls st G => ev_iconst rfl rfl,
  fun x y ls st G => ev_iadd rfl,
  fun i r ls st G => ev_iaload rfl,
  fun a0 r ls st G hr hG => ev_virt (As := [.int a0]) rfl rfl rfl rfl rfl rfl hr hG,
  fun x y ls st G => ev_br rfl rfl,
  fun ls st G => ev_iconst rfl rfl,
  fun v ls G hv => ev_zreturn rfl rfl hv,
  fun v0 v2 v3 x st G => ev_aload_n rfl rfl,
  fun v1 v2 v3 x st G => ev_aload_nF rfl rfl,
  fun v0 v1 v2 x st G => ev_iload_n rfl rfl,
  fun ls st G => ev_iconst rfl rfl,
  fun x y ls st G => ev_iadd rfl,
  fun i r ls st G => ev_iaload rfl,
  fun a0 r ls st G hr hG => ev_virt (As := [.int a0]) rfl rfl rfl rfl rfl rfl hr hG,
  fun v0 v1 v3 x st G => ev_aload_n rfl rfl,
  fun v1 v2 v3 x st G => ev_aload_nF rfl rfl,
  fun v0 v1 v2 x st G => ev_iload_n rfl rfl,
  fun ls st G => ev_iconst rfl rfl,
  fun x y ls st G => ev_iadd rfl,
  fun i r ls st G => ev_iaload rfl,
  fun a0 r ls st G hr hG => ev_virt (As := [.int a0]) rfl rfl rfl rfl rfl rfl hr hG,
  fun x y ls st G => ev_br rfl rfl,
  fun ls st G => ev_iconst rfl rfl,
  fun v ls G hv => ev_zreturn rfl rfl hv,
  fun v0 v2 v3 x st G => ev_aload_n rfl rfl,
  fun v1 v2 v3 x st G => ev_aload_nF rfl rfl,
  fun v0 v1 v2 x st G => ev_iload_n rfl rfl,
  fun ls st G => ev_iconst rfl rfl,
  fun x y ls st G => ev_iadd rfl⟩
set_option maxRecDepth 100000 in
theorem e_180_8 {X : mc_X} : (∀ (i : Int32) (r : Value) (ls st : List Value) (G : mc_H), mc_ev X 180 758 ls (.int i :: r :: st) G = (mc_getA X G 0 r i).bind (fun x => mc_ev X 180 759 ls (.int x :: st) G)) ∧
  (∀ (a0 : Int32) (r : Nat) (ls st : List Value) (G : mc_H), st.length ≤ 4 → mc_cls G r = some 7 → mc_ev X 180 759 ls (.int a0 :: .ref r :: st) G = (mc_ev X 84 0 [.ref r, .int a0] [] G).bind (fun q => mc_ev X 180 762 ls (q.1.toList ++ st) q.2)) ∧
  (∀ (v0 v1 v3 : Value) (x : Nat) (st : List Value) (G : mc_H), mc_ev X 180 762 [v0, v1, .ref x, v3] st G = mc_ev X 180 763 [v0, v1, .ref x, v3] (.ref x :: st) G) ∧
  (∀ (v1 v2 v3 : Value) (x : UInt32) (st : List Value) (G : mc_H), mc_ev X 180 763 [.float x, v1, v2, v3] st G = mc_ev X 180 764 [.float x, v1, v2, v3] (.float x :: st) G) ∧
  (∀ (v0 v1 v2 : Value) (x : Int32) (st : List Value) (G : mc_H), mc_ev X 180 764 [v0, v1, v2, .int x] st G = mc_ev X 180 765 [v0, v1, v2, .int x] (.int x :: st) G) ∧
  (∀ (ls st : List Value) (G : mc_H), mc_ev X 180 765 ls st G = mc_ev X 180 766 ls (.int 1 :: st) G) ∧
  (∀ (x y : Int32) (ls st : List Value) (G : mc_H), mc_ev X 180 766 ls (.int y :: .int x :: st) G = mc_ev X 180 767 ls (.int (x + y) :: st) G) ∧
  (∀ (i : Int32) (r : Value) (ls st : List Value) (G : mc_H), mc_ev X 180 767 ls (.int i :: r :: st) G = (mc_getA X G 0 r i).bind (fun x => mc_ev X 180 768 ls (.int x :: st) G)) ∧
  (∀ (a0 : Int32) (r : Nat) (ls st : List Value) (G : mc_H), st.length ≤ 4 → mc_cls G r = some 8 → mc_ev X 180 768 ls (.int a0 :: .ref r :: st) G = (mc_ev X 160 0 [.ref r, .int a0] [] G).bind (fun q => mc_ev X 180 771 ls (q.1.toList ++ st) q.2)) ∧
  (∀ (x y : Int32) (ls st : List Value) (G : mc_H), mc_ev X 180 771 ls (.int y :: .int x :: st) G = if x = y then mc_ev X 180 1224 ls st G else mc_ev X 180 774 ls st G) ∧
  (∀ (ls st : List Value) (G : mc_H), mc_ev X 180 774 ls st G = mc_ev X 180 775 ls (.int 0 :: st) G) ∧
  (∀ (v : Int32) (ls : List Value) (G : mc_H), (v = 0 ∨ v = 1) → mc_ev X 180 775 ls [.int v] G = some (some (.int v), G)) ∧
  (∀ (v0 v2 v3 : Value) (x : Nat) (st : List Value) (G : mc_H), mc_ev X 180 776 [v0, .ref x, v2, v3] st G = mc_ev X 180 777 [v0, .ref x, v2, v3] (.ref x :: st) G) ∧
  (∀ (v1 v2 v3 : Value) (x : UInt32) (st : List Value) (G : mc_H), mc_ev X 180 777 [.float x, v1, v2, v3] st G = mc_ev X 180 778 [.float x, v1, v2, v3] (.float x :: st) G) ∧
  (∀ (v0 v1 v2 : Value) (x : Int32) (st : List Value) (G : mc_H), mc_ev X 180 778 [v0, v1, v2, .int x] st G = mc_ev X 180 779 [v0, v1, v2, .int x] (.int x :: st) G) ∧
  (∀ (ls st : List Value) (G : mc_H), mc_ev X 180 779 ls st G = mc_ev X 180 780 ls (.int 1 :: st) G) ∧
  (∀ (x y : Int32) (ls st : List Value) (G : mc_H), mc_ev X 180 780 ls (.int y :: .int x :: st) G = mc_ev X 180 781 ls (.int (x + y) :: st) G) ∧
  (∀ (i : Int32) (r : Value) (ls st : List Value) (G : mc_H), mc_ev X 180 781 ls (.int i :: r :: st) G = (mc_getA X G 0 r i).bind (fun x => mc_ev X 180 782 ls (.int x :: st) G)) ∧
  (∀ (v1 v2 v3 : Value) (x : UInt32) (st : List Value) (G : mc_H), mc_ev X 180 782 [.float x, v1, v2, v3] st G = mc_ev X 180 783 [.float x, v1, v2, v3] (.float x :: st) G) ∧
  (∀ (v0 v1 v2 : Value) (x : Int32) (st : List Value) (G : mc_H), mc_ev X 180 783 [v0, v1, v2, .int x] st G = mc_ev X 180 784 [v0, v1, v2, .int x] (.int x :: st) G) ∧
  (∀ (ls st : List Value) (G : mc_H), mc_ev X 180 784 ls st G = mc_ev X 180 785 ls (.int 2 :: st) G) ∧
  (∀ (x y : Int32) (ls st : List Value) (G : mc_H), mc_ev X 180 785 ls (.int y :: .int x :: st) G = mc_ev X 180 786 ls (.int (x + y) :: st) G) ∧
  (∀ (i : Int32) (r : Value) (ls st : List Value) (G : mc_H), mc_ev X 180 786 ls (.int i :: r :: st) G = (mc_getA X G 0 r i).bind (fun x => mc_ev X 180 787 ls (.int x :: st) G)) ∧
  (∀ (a0 : Int32) (a1 : Int32) (r : Nat) (ls st : List Value) (G : mc_H), st.length ≤ 4 → mc_cls G r = some 7 → mc_ev X 180 787 ls (.int a1 :: .int a0 :: .ref r :: st) G = (mc_ev X 85 0 [.ref r, .int a0, .int a1] [] G).bind (fun q => mc_ev X 180 790 ls (q.1.toList ++ st) q.2)) ∧
  (∀ (v0 v1 v3 : Value) (x : Nat) (st : List Value) (G : mc_H), mc_ev X 180 790 [v0, v1, .ref x, v3] st G = mc_ev X 180 791 [v0, v1, .ref x, v3] (.ref x :: st) G) ∧
  (∀ (v1 v2 v3 : Value) (x : UInt32) (st : List Value) (G : mc_H), mc_ev X 180 791 [.float x, v1, v2, v3] st G = mc_ev X 180 792 [.float x, v1, v2, v3] (.float x :: st) G) ∧
  (∀ (v0 v1 v2 : Value) (x : Int32) (st : List Value) (G : mc_H), mc_ev X 180 792 [v0, v1, v2, .int x] st G = mc_ev X 180 793 [v0, v1, v2, .int x] (.int x :: st) G) ∧
  (∀ (ls st : List Value) (G : mc_H), mc_ev X 180 793 ls st G = mc_ev X 180 794 ls (.int 1 :: st) G) ∧
  (∀ (x y : Int32) (ls st : List Value) (G : mc_H), mc_ev X 180 794 ls (.int y :: .int x :: st) G = mc_ev X 180 795 ls (.int (x + y) :: st) G) ∧
  (∀ (i : Int32) (r : Value) (ls st : List Value) (G : mc_H), mc_ev X 180 795 ls (.int i :: r :: st) G = (mc_getA X G 0 r i).bind (fun x => mc_ev X 180 796 ls (.int x :: st) G)) ∧
  (∀ (v1 v2 v3 : Value) (x : UInt32) (st : List Value) (G : mc_H), mc_ev X 180 796 [.float x, v1, v2, v3] st G = mc_ev X 180 797 [.float x, v1, v2, v3] (.float x :: st) G) ∧
  (∀ (v0 v1 v2 : Value) (x : Int32) (st : List Value) (G : mc_H), mc_ev X 180 797 [v0, v1, v2, .int x] st G = mc_ev X 180 798 [v0, v1, v2, .int x] (.int x :: st) G) ∧
  (∀ (ls st : List Value) (G : mc_H), mc_ev X 180 798 ls st G = mc_ev X 180 799 ls (.int 2 :: st) G) ∧
  (∀ (x y : Int32) (ls st : List Value) (G : mc_H), mc_ev X 180 799 ls (.int y :: .int x :: st) G = mc_ev X 180 800 ls (.int (x + y) :: st) G) ∧
  (∀ (i : Int32) (r : Value) (ls st : List Value) (G : mc_H), mc_ev X 180 800 ls (.int i :: r :: st) G = (mc_getA X G 0 r i).bind (fun x => mc_ev X 180 801 ls (.int x :: st) G)) ∧
  (∀ (a0 : Int32) (a1 : Int32) (r : Nat) (ls st : List Value) (G : mc_H), st.length ≤ 4 → mc_cls G r = some 8 → mc_ev X 180 801 ls (.int a1 :: .int a0 :: .ref r :: st) G = (mc_ev X 161 0 [.ref r, .int a0, .int a1] [] G).bind (fun q => mc_ev X 180 804 ls (q.1.toList ++ st) q.2)) ∧
  (∀ (x y : Int32) (ls st : List Value) (G : mc_H), mc_ev X 180 804 ls (.int y :: .int x :: st) G = if x = y then mc_ev X 180 1224 ls st G else mc_ev X 180 807 ls st G) ∧
  (∀ (ls st : List Value) (G : mc_H), mc_ev X 180 807 ls st G = mc_ev X 180 808 ls (.int 0 :: st) G) ∧
  (∀ (v : Int32) (ls : List Value) (G : mc_H), (v = 0 ∨ v = 1) → mc_ev X 180 808 ls [.int v] G = some (some (.int v), G)) ∧
  (∀ (v0 v2 v3 : Value) (x : Nat) (st : List Value) (G : mc_H), mc_ev X 180 809 [v0, .ref x, v2, v3] st G = mc_ev X 180 810 [v0, .ref x, v2, v3] (.ref x :: st) G) ∧
  (∀ (v1 v2 v3 : Value) (x : UInt32) (st : List Value) (G : mc_H), mc_ev X 180 810 [.float x, v1, v2, v3] st G = mc_ev X 180 811 [.float x, v1, v2, v3] (.float x :: st) G) ∧
  (∀ (v0 v1 v2 : Value) (x : Int32) (st : List Value) (G : mc_H), mc_ev X 180 811 [v0, v1, v2, .int x] st G = mc_ev X 180 812 [v0, v1, v2, .int x] (.int x :: st) G) ∧
  (∀ (ls st : List Value) (G : mc_H), mc_ev X 180 812 ls st G = mc_ev X 180 813 ls (.int 1 :: st) G) ∧
  (∀ (x y : Int32) (ls st : List Value) (G : mc_H), mc_ev X 180 813 ls (.int y :: .int x :: st) G = mc_ev X 180 814 ls (.int (x + y) :: st) G) ∧
  (∀ (i : Int32) (r : Value) (ls st : List Value) (G : mc_H), mc_ev X 180 814 ls (.int i :: r :: st) G = (mc_getA X G 0 r i).bind (fun x => mc_ev X 180 815 ls (.int x :: st) G)) ∧
  (∀ (a0 : Int32) (r : Nat) (ls st : List Value) (G : mc_H), st.length ≤ 4 → mc_cls G r = some 7 → mc_ev X 180 815 ls (.int a0 :: .ref r :: st) G = (mc_ev X 86 0 [.ref r, .int a0] [] G).bind (fun q => mc_ev X 180 818 ls (q.1.toList ++ st) q.2)) ∧
  (∀ (v0 v1 v3 : Value) (x : Nat) (st : List Value) (G : mc_H), mc_ev X 180 818 [v0, v1, .ref x, v3] st G = mc_ev X 180 819 [v0, v1, .ref x, v3] (.ref x :: st) G) ∧
  (∀ (v1 v2 v3 : Value) (x : UInt32) (st : List Value) (G : mc_H), mc_ev X 180 819 [.float x, v1, v2, v3] st G = mc_ev X 180 820 [.float x, v1, v2, v3] (.float x :: st) G) ∧
  (∀ (v0 v1 v2 : Value) (x : Int32) (st : List Value) (G : mc_H), mc_ev X 180 820 [v0, v1, v2, .int x] st G = mc_ev X 180 821 [v0, v1, v2, .int x] (.int x :: st) G) ∧
  (∀ (ls st : List Value) (G : mc_H), mc_ev X 180 821 ls st G = mc_ev X 180 822 ls (.int 1 :: st) G) ∧
  (∀ (x y : Int32) (ls st : List Value) (G : mc_H), mc_ev X 180 822 ls (.int y :: .int x :: st) G = mc_ev X 180 823 ls (.int (x + y) :: st) G) ∧
  (∀ (i : Int32) (r : Value) (ls st : List Value) (G : mc_H), mc_ev X 180 823 ls (.int i :: r :: st) G = (mc_getA X G 0 r i).bind (fun x => mc_ev X 180 824 ls (.int x :: st) G)) ∧
  (∀ (a0 : Int32) (r : Nat) (ls st : List Value) (G : mc_H), st.length ≤ 4 → mc_cls G r = some 8 → mc_ev X 180 824 ls (.int a0 :: .ref r :: st) G = (mc_ev X 162 0 [.ref r, .int a0, .null, .null, .null] [] G).bind (fun q => mc_ev X 180 827 ls (q.1.toList ++ st) q.2)) ∧
  (∀ (x y : Int32) (ls st : List Value) (G : mc_H), mc_ev X 180 827 ls (.int y :: .int x :: st) G = if x = y then mc_ev X 180 1224 ls st G else mc_ev X 180 830 ls st G) ∧
  (∀ (ls st : List Value) (G : mc_H), mc_ev X 180 830 ls st G = mc_ev X 180 831 ls (.int 0 :: st) G) ∧
  (∀ (v : Int32) (ls : List Value) (G : mc_H), (v = 0 ∨ v = 1) → mc_ev X 180 831 ls [.int v] G = some (some (.int v), G)) ∧
  (∀ (v0 v2 v3 : Value) (x : Nat) (st : List Value) (G : mc_H), mc_ev X 180 832 [v0, .ref x, v2, v3] st G = mc_ev X 180 833 [v0, .ref x, v2, v3] (.ref x :: st) G) ∧
  (∀ (v1 v2 v3 : Value) (x : UInt32) (st : List Value) (G : mc_H), mc_ev X 180 833 [.float x, v1, v2, v3] st G = mc_ev X 180 834 [.float x, v1, v2, v3] (.float x :: st) G) ∧
  (∀ (v0 v1 v2 : Value) (x : Int32) (st : List Value) (G : mc_H), mc_ev X 180 834 [v0, v1, v2, .int x] st G = mc_ev X 180 835 [v0, v1, v2, .int x] (.int x :: st) G) ∧
  (∀ (ls st : List Value) (G : mc_H), mc_ev X 180 835 ls st G = mc_ev X 180 836 ls (.int 1 :: st) G) := ⟨fun i r ls st G => ev_iaload rfl,
  fun a0 r ls st G hr hG => ev_virt (As := [.int a0]) rfl rfl rfl rfl rfl rfl hr hG,
  fun v0 v1 v3 x st G => ev_aload_n rfl rfl,
  fun v1 v2 v3 x st G => ev_aload_nF rfl rfl,
  fun v0 v1 v2 x st G => ev_iload_n rfl rfl,
  fun ls st G => ev_iconst rfl rfl,
  fun x y ls st G => ev_iadd rfl,
  fun i r ls st G => ev_iaload rfl,
  fun a0 r ls st G hr hG => ev_virt (As := [.int a0]) rfl rfl rfl rfl rfl rfl hr hG,
  fun x y ls st G => ev_br rfl rfl,
  fun ls st G => ev_iconst rfl rfl,
  fun v ls G hv => ev_zreturn rfl rfl hv,
  fun v0 v2 v3 x st G => ev_aload_n rfl rfl,
  fun v1 v2 v3 x st G => ev_aload_nF rfl rfl,
  fun v0 v1 v2 x st G => ev_iload_n rfl rfl,
  fun ls st G => ev_iconst rfl rfl,
  fun x y ls st G => ev_iadd rfl,
  fun i r ls st G => ev_iaload rfl,
  fun v1 v2 v3 x st G => ev_aload_nF rfl rfl,
  fun v0 v1 v2 x st G => ev_iload_n rfl rfl,
  fun ls st G => ev_iconst rfl rfl,
  fun x y ls st G => ev_iadd rfl,
  fun i r ls st G => ev_iaload rfl,
  fun a0 a1 r ls st G hr hG => ev_virt (As := [.int a0, .int a1]) rfl rfl rfl rfl rfl rfl hr hG,
  fun v0 v1 v3 x st G => ev_aload_n rfl rfl,
  fun v1 v2 v3 x st G => ev_aload_nF rfl rfl,
  fun v0 v1 v2 x st G => ev_iload_n rfl rfl,
  fun ls st G => ev_iconst rfl rfl,
  fun x y ls st G => ev_iadd rfl,
  fun i r ls st G => ev_iaload rfl,
  fun v1 v2 v3 x st G => ev_aload_nF rfl rfl,
  fun v0 v1 v2 x st G => ev_iload_n rfl rfl,
  fun ls st G => ev_iconst rfl rfl,
  fun x y ls st G => ev_iadd rfl,
  fun i r ls st G => ev_iaload rfl,
  fun a0 a1 r ls st G hr hG => ev_virt (As := [.int a0, .int a1]) rfl rfl rfl rfl rfl rfl hr hG,
  fun x y ls st G => ev_br rfl rfl,
  fun ls st G => ev_iconst rfl rfl,
  fun v ls G hv => ev_zreturn rfl rfl hv,
  fun v0 v2 v3 x st G => ev_aload_n rfl rfl,
  fun v1 v2 v3 x st G => ev_aload_nF rfl rfl,
  fun v0 v1 v2 x st G => ev_iload_n rfl rfl,
  fun ls st G => ev_iconst rfl rfl,
  fun x y ls st G => ev_iadd rfl,
  fun i r ls st G => ev_iaload rfl,
  fun a0 r ls st G hr hG => ev_virt (As := [.int a0]) rfl rfl rfl rfl rfl rfl hr hG,
  fun v0 v1 v3 x st G => ev_aload_n rfl rfl,
  fun v1 v2 v3 x st G => ev_aload_nF rfl rfl,
  fun v0 v1 v2 x st G => ev_iload_n rfl rfl,
  fun ls st G => ev_iconst rfl rfl,
  fun x y ls st G => ev_iadd rfl,
  fun i r ls st G => ev_iaload rfl,
  fun a0 r ls st G hr hG => ev_virt (As := [.int a0]) rfl rfl rfl rfl rfl rfl hr hG,
  fun x y ls st G => ev_br rfl rfl,
  fun ls st G => ev_iconst rfl rfl,
  fun v ls G hv => ev_zreturn rfl rfl hv,
  fun v0 v2 v3 x st G => ev_aload_n rfl rfl,
  fun v1 v2 v3 x st G => ev_aload_nF rfl rfl,
  fun v0 v1 v2 x st G => ev_iload_n rfl rfl,
  fun ls st G => ev_iconst rfl rfl⟩
set_option maxRecDepth 100000 in
theorem e_180_9 {X : mc_X} : (∀ (x y : Int32) (ls st : List Value) (G : mc_H), mc_ev X 180 836 ls (.int y :: .int x :: st) G = mc_ev X 180 837 ls (.int (x + y) :: st) G) ∧
  (∀ (i : Int32) (r : Value) (ls st : List Value) (G : mc_H), mc_ev X 180 837 ls (.int i :: r :: st) G = (mc_getA X G 0 r i).bind (fun x => mc_ev X 180 838 ls (.int x :: st) G)) ∧
  (∀ (v1 v2 v3 : Value) (x : UInt32) (st : List Value) (G : mc_H), mc_ev X 180 838 [.float x, v1, v2, v3] st G = mc_ev X 180 839 [.float x, v1, v2, v3] (.float x :: st) G) ∧
  (∀ (v0 v1 v2 : Value) (x : Int32) (st : List Value) (G : mc_H), mc_ev X 180 839 [v0, v1, v2, .int x] st G = mc_ev X 180 840 [v0, v1, v2, .int x] (.int x :: st) G) ∧
  (∀ (ls st : List Value) (G : mc_H), mc_ev X 180 840 ls st G = mc_ev X 180 841 ls (.int 2 :: st) G) ∧
  (∀ (x y : Int32) (ls st : List Value) (G : mc_H), mc_ev X 180 841 ls (.int y :: .int x :: st) G = mc_ev X 180 842 ls (.int (x + y) :: st) G) ∧
  (∀ (i : Int32) (r : Value) (ls st : List Value) (G : mc_H), mc_ev X 180 842 ls (.int i :: r :: st) G = (mc_getA X G 0 r i).bind (fun x => mc_ev X 180 843 ls (.int x :: st) G)) ∧
  (∀ (v1 v2 v3 : Value) (x : UInt32) (st : List Value) (G : mc_H), mc_ev X 180 843 [.float x, v1, v2, v3] st G = mc_ev X 180 844 [.float x, v1, v2, v3] (.float x :: st) G) ∧
  (∀ (v0 v1 v2 : Value) (x : Int32) (st : List Value) (G : mc_H), mc_ev X 180 844 [v0, v1, v2, .int x] st G = mc_ev X 180 845 [v0, v1, v2, .int x] (.int x :: st) G) ∧
  (∀ (ls st : List Value) (G : mc_H), mc_ev X 180 845 ls st G = mc_ev X 180 846 ls (.int 3 :: st) G) ∧
  (∀ (x y : Int32) (ls st : List Value) (G : mc_H), mc_ev X 180 846 ls (.int y :: .int x :: st) G = mc_ev X 180 847 ls (.int (x + y) :: st) G) ∧
  (∀ (i : Int32) (r : Value) (ls st : List Value) (G : mc_H), mc_ev X 180 847 ls (.int i :: r :: st) G = (mc_getA X G 0 r i).bind (fun x => mc_ev X 180 848 ls (.int x :: st) G)) ∧
  (∀ (a0 : Int32) (a1 : Int32) (a2 : Int32) (r : Nat) (ls st : List Value) (G : mc_H), st.length ≤ 4 → mc_cls G r = some 7 → mc_ev X 180 848 ls (.int a2 :: .int a1 :: .int a0 :: .ref r :: st) G = (mc_ev X 87 0 [.ref r, .int a0, .int a1, .int a2] [] G).bind (fun q => mc_ev X 180 851 ls (q.1.toList ++ st) q.2)) ∧
  (∀ (v0 v1 v3 : Value) (x : Nat) (st : List Value) (G : mc_H), mc_ev X 180 851 [v0, v1, .ref x, v3] st G = mc_ev X 180 852 [v0, v1, .ref x, v3] (.ref x :: st) G) ∧
  (∀ (v1 v2 v3 : Value) (x : UInt32) (st : List Value) (G : mc_H), mc_ev X 180 852 [.float x, v1, v2, v3] st G = mc_ev X 180 853 [.float x, v1, v2, v3] (.float x :: st) G) ∧
  (∀ (v0 v1 v2 : Value) (x : Int32) (st : List Value) (G : mc_H), mc_ev X 180 853 [v0, v1, v2, .int x] st G = mc_ev X 180 854 [v0, v1, v2, .int x] (.int x :: st) G) ∧
  (∀ (ls st : List Value) (G : mc_H), mc_ev X 180 854 ls st G = mc_ev X 180 855 ls (.int 1 :: st) G) ∧
  (∀ (x y : Int32) (ls st : List Value) (G : mc_H), mc_ev X 180 855 ls (.int y :: .int x :: st) G = mc_ev X 180 856 ls (.int (x + y) :: st) G) ∧
  (∀ (i : Int32) (r : Value) (ls st : List Value) (G : mc_H), mc_ev X 180 856 ls (.int i :: r :: st) G = (mc_getA X G 0 r i).bind (fun x => mc_ev X 180 857 ls (.int x :: st) G)) ∧
  (∀ (v1 v2 v3 : Value) (x : UInt32) (st : List Value) (G : mc_H), mc_ev X 180 857 [.float x, v1, v2, v3] st G = mc_ev X 180 858 [.float x, v1, v2, v3] (.float x :: st) G) ∧
  (∀ (v0 v1 v2 : Value) (x : Int32) (st : List Value) (G : mc_H), mc_ev X 180 858 [v0, v1, v2, .int x] st G = mc_ev X 180 859 [v0, v1, v2, .int x] (.int x :: st) G) ∧
  (∀ (ls st : List Value) (G : mc_H), mc_ev X 180 859 ls st G = mc_ev X 180 860 ls (.int 2 :: st) G) ∧
  (∀ (x y : Int32) (ls st : List Value) (G : mc_H), mc_ev X 180 860 ls (.int y :: .int x :: st) G = mc_ev X 180 861 ls (.int (x + y) :: st) G) ∧
  (∀ (i : Int32) (r : Value) (ls st : List Value) (G : mc_H), mc_ev X 180 861 ls (.int i :: r :: st) G = (mc_getA X G 0 r i).bind (fun x => mc_ev X 180 862 ls (.int x :: st) G)) ∧
  (∀ (v1 v2 v3 : Value) (x : UInt32) (st : List Value) (G : mc_H), mc_ev X 180 862 [.float x, v1, v2, v3] st G = mc_ev X 180 863 [.float x, v1, v2, v3] (.float x :: st) G) ∧
  (∀ (v0 v1 v2 : Value) (x : Int32) (st : List Value) (G : mc_H), mc_ev X 180 863 [v0, v1, v2, .int x] st G = mc_ev X 180 864 [v0, v1, v2, .int x] (.int x :: st) G) ∧
  (∀ (ls st : List Value) (G : mc_H), mc_ev X 180 864 ls st G = mc_ev X 180 865 ls (.int 3 :: st) G) ∧
  (∀ (x y : Int32) (ls st : List Value) (G : mc_H), mc_ev X 180 865 ls (.int y :: .int x :: st) G = mc_ev X 180 866 ls (.int (x + y) :: st) G) ∧
  (∀ (i : Int32) (r : Value) (ls st : List Value) (G : mc_H), mc_ev X 180 866 ls (.int i :: r :: st) G = (mc_getA X G 0 r i).bind (fun x => mc_ev X 180 867 ls (.int x :: st) G)) ∧
  (∀ (a0 : Int32) (a1 : Int32) (a2 : Int32) (r : Nat) (ls st : List Value) (G : mc_H), st.length ≤ 4 → mc_cls G r = some 8 → mc_ev X 180 867 ls (.int a2 :: .int a1 :: .int a0 :: .ref r :: st) G = (mc_ev X 164 0 [.ref r, .int a0, .int a1, .int a2, .null] [] G).bind (fun q => mc_ev X 180 870 ls (q.1.toList ++ st) q.2)) ∧
  (∀ (x y : Int32) (ls st : List Value) (G : mc_H), mc_ev X 180 870 ls (.int y :: .int x :: st) G = if x = y then mc_ev X 180 1224 ls st G else mc_ev X 180 873 ls st G) ∧
  (∀ (ls st : List Value) (G : mc_H), mc_ev X 180 873 ls st G = mc_ev X 180 874 ls (.int 0 :: st) G) ∧
  (∀ (v : Int32) (ls : List Value) (G : mc_H), (v = 0 ∨ v = 1) → mc_ev X 180 874 ls [.int v] G = some (some (.int v), G)) ∧
  (∀ (v0 v2 v3 : Value) (x : Nat) (st : List Value) (G : mc_H), mc_ev X 180 875 [v0, .ref x, v2, v3] st G = mc_ev X 180 876 [v0, .ref x, v2, v3] (.ref x :: st) G) ∧
  (∀ (v1 v2 v3 : Value) (x : UInt32) (st : List Value) (G : mc_H), mc_ev X 180 876 [.float x, v1, v2, v3] st G = mc_ev X 180 877 [.float x, v1, v2, v3] (.float x :: st) G) ∧
  (∀ (v0 v1 v2 : Value) (x : Int32) (st : List Value) (G : mc_H), mc_ev X 180 877 [v0, v1, v2, .int x] st G = mc_ev X 180 878 [v0, v1, v2, .int x] (.int x :: st) G) ∧
  (∀ (ls st : List Value) (G : mc_H), mc_ev X 180 878 ls st G = mc_ev X 180 879 ls (.int 1 :: st) G) ∧
  (∀ (x y : Int32) (ls st : List Value) (G : mc_H), mc_ev X 180 879 ls (.int y :: .int x :: st) G = mc_ev X 180 880 ls (.int (x + y) :: st) G) ∧
  (∀ (i : Int32) (r : Value) (ls st : List Value) (G : mc_H), mc_ev X 180 880 ls (.int i :: r :: st) G = (mc_getA X G 0 r i).bind (fun x => mc_ev X 180 881 ls (.int x :: st) G)) ∧
  (∀ (v1 v2 v3 : Value) (x : UInt32) (st : List Value) (G : mc_H), mc_ev X 180 881 [.float x, v1, v2, v3] st G = mc_ev X 180 882 [.float x, v1, v2, v3] (.float x :: st) G) ∧
  (∀ (v0 v1 v2 : Value) (x : Int32) (st : List Value) (G : mc_H), mc_ev X 180 882 [v0, v1, v2, .int x] st G = mc_ev X 180 883 [v0, v1, v2, .int x] (.int x :: st) G) ∧
  (∀ (ls st : List Value) (G : mc_H), mc_ev X 180 883 ls st G = mc_ev X 180 884 ls (.int 2 :: st) G) ∧
  (∀ (x y : Int32) (ls st : List Value) (G : mc_H), mc_ev X 180 884 ls (.int y :: .int x :: st) G = mc_ev X 180 885 ls (.int (x + y) :: st) G) ∧
  (∀ (i : Int32) (r : Value) (ls st : List Value) (G : mc_H), mc_ev X 180 885 ls (.int i :: r :: st) G = (mc_getA X G 0 r i).bind (fun x => mc_ev X 180 886 ls (.int x :: st) G)) ∧
  (∀ (v1 v2 v3 : Value) (x : UInt32) (st : List Value) (G : mc_H), mc_ev X 180 886 [.float x, v1, v2, v3] st G = mc_ev X 180 887 [.float x, v1, v2, v3] (.float x :: st) G) ∧
  (∀ (v0 v1 v2 : Value) (x : Int32) (st : List Value) (G : mc_H), mc_ev X 180 887 [v0, v1, v2, .int x] st G = mc_ev X 180 888 [v0, v1, v2, .int x] (.int x :: st) G) ∧
  (∀ (ls st : List Value) (G : mc_H), mc_ev X 180 888 ls st G = mc_ev X 180 889 ls (.int 3 :: st) G) ∧
  (∀ (x y : Int32) (ls st : List Value) (G : mc_H), mc_ev X 180 889 ls (.int y :: .int x :: st) G = mc_ev X 180 890 ls (.int (x + y) :: st) G) ∧
  (∀ (i : Int32) (r : Value) (ls st : List Value) (G : mc_H), mc_ev X 180 890 ls (.int i :: r :: st) G = (mc_getA X G 0 r i).bind (fun x => mc_ev X 180 891 ls (.int x :: st) G)) ∧
  (∀ (a0 : Int32) (a1 : Int32) (a2 : Int32) (r : Nat) (ls st : List Value) (G : mc_H), st.length ≤ 4 → mc_cls G r = some 7 → mc_ev X 180 891 ls (.int a2 :: .int a1 :: .int a0 :: .ref r :: st) G = (mc_ev X 88 0 [.ref r, .int a0, .int a1, .int a2] [] G).bind (fun q => mc_ev X 180 894 ls (q.1.toList ++ st) q.2)) ∧
  (∀ (v0 v1 v3 : Value) (x : Nat) (st : List Value) (G : mc_H), mc_ev X 180 894 [v0, v1, .ref x, v3] st G = mc_ev X 180 895 [v0, v1, .ref x, v3] (.ref x :: st) G) ∧
  (∀ (v1 v2 v3 : Value) (x : UInt32) (st : List Value) (G : mc_H), mc_ev X 180 895 [.float x, v1, v2, v3] st G = mc_ev X 180 896 [.float x, v1, v2, v3] (.float x :: st) G) ∧
  (∀ (v0 v1 v2 : Value) (x : Int32) (st : List Value) (G : mc_H), mc_ev X 180 896 [v0, v1, v2, .int x] st G = mc_ev X 180 897 [v0, v1, v2, .int x] (.int x :: st) G) ∧
  (∀ (ls st : List Value) (G : mc_H), mc_ev X 180 897 ls st G = mc_ev X 180 898 ls (.int 1 :: st) G) ∧
  (∀ (x y : Int32) (ls st : List Value) (G : mc_H), mc_ev X 180 898 ls (.int y :: .int x :: st) G = mc_ev X 180 899 ls (.int (x + y) :: st) G) ∧
  (∀ (i : Int32) (r : Value) (ls st : List Value) (G : mc_H), mc_ev X 180 899 ls (.int i :: r :: st) G = (mc_getA X G 0 r i).bind (fun x => mc_ev X 180 900 ls (.int x :: st) G)) ∧
  (∀ (v1 v2 v3 : Value) (x : UInt32) (st : List Value) (G : mc_H), mc_ev X 180 900 [.float x, v1, v2, v3] st G = mc_ev X 180 901 [.float x, v1, v2, v3] (.float x :: st) G) ∧
  (∀ (v0 v1 v2 : Value) (x : Int32) (st : List Value) (G : mc_H), mc_ev X 180 901 [v0, v1, v2, .int x] st G = mc_ev X 180 902 [v0, v1, v2, .int x] (.int x :: st) G) ∧
  (∀ (ls st : List Value) (G : mc_H), mc_ev X 180 902 ls st G = mc_ev X 180 903 ls (.int 2 :: st) G) ∧
  (∀ (x y : Int32) (ls st : List Value) (G : mc_H), mc_ev X 180 903 ls (.int y :: .int x :: st) G = mc_ev X 180 904 ls (.int (x + y) :: st) G) := ⟨fun x y ls st G => ev_iadd rfl,
  fun i r ls st G => ev_iaload rfl,
  fun v1 v2 v3 x st G => ev_aload_nF rfl rfl,
  fun v0 v1 v2 x st G => ev_iload_n rfl rfl,
  fun ls st G => ev_iconst rfl rfl,
  fun x y ls st G => ev_iadd rfl,
  fun i r ls st G => ev_iaload rfl,
  fun v1 v2 v3 x st G => ev_aload_nF rfl rfl,
  fun v0 v1 v2 x st G => ev_iload_n rfl rfl,
  fun ls st G => ev_iconst rfl rfl,
  fun x y ls st G => ev_iadd rfl,
  fun i r ls st G => ev_iaload rfl,
  fun a0 a1 a2 r ls st G hr hG => ev_virt (As := [.int a0, .int a1, .int a2]) rfl rfl rfl rfl rfl rfl hr hG,
  fun v0 v1 v3 x st G => ev_aload_n rfl rfl,
  fun v1 v2 v3 x st G => ev_aload_nF rfl rfl,
  fun v0 v1 v2 x st G => ev_iload_n rfl rfl,
  fun ls st G => ev_iconst rfl rfl,
  fun x y ls st G => ev_iadd rfl,
  fun i r ls st G => ev_iaload rfl,
  fun v1 v2 v3 x st G => ev_aload_nF rfl rfl,
  fun v0 v1 v2 x st G => ev_iload_n rfl rfl,
  fun ls st G => ev_iconst rfl rfl,
  fun x y ls st G => ev_iadd rfl,
  fun i r ls st G => ev_iaload rfl,
  fun v1 v2 v3 x st G => ev_aload_nF rfl rfl,
  fun v0 v1 v2 x st G => ev_iload_n rfl rfl,
  fun ls st G => ev_iconst rfl rfl,
  fun x y ls st G => ev_iadd rfl,
  fun i r ls st G => ev_iaload rfl,
  fun a0 a1 a2 r ls st G hr hG => ev_virt (As := [.int a0, .int a1, .int a2]) rfl rfl rfl rfl rfl rfl hr hG,
  fun x y ls st G => ev_br rfl rfl,
  fun ls st G => ev_iconst rfl rfl,
  fun v ls G hv => ev_zreturn rfl rfl hv,
  fun v0 v2 v3 x st G => ev_aload_n rfl rfl,
  fun v1 v2 v3 x st G => ev_aload_nF rfl rfl,
  fun v0 v1 v2 x st G => ev_iload_n rfl rfl,
  fun ls st G => ev_iconst rfl rfl,
  fun x y ls st G => ev_iadd rfl,
  fun i r ls st G => ev_iaload rfl,
  fun v1 v2 v3 x st G => ev_aload_nF rfl rfl,
  fun v0 v1 v2 x st G => ev_iload_n rfl rfl,
  fun ls st G => ev_iconst rfl rfl,
  fun x y ls st G => ev_iadd rfl,
  fun i r ls st G => ev_iaload rfl,
  fun v1 v2 v3 x st G => ev_aload_nF rfl rfl,
  fun v0 v1 v2 x st G => ev_iload_n rfl rfl,
  fun ls st G => ev_iconst rfl rfl,
  fun x y ls st G => ev_iadd rfl,
  fun i r ls st G => ev_iaload rfl,
  fun a0 a1 a2 r ls st G hr hG => ev_virt (As := [.int a0, .int a1, .int a2]) rfl rfl rfl rfl rfl rfl hr hG,
  fun v0 v1 v3 x st G => ev_aload_n rfl rfl,
  fun v1 v2 v3 x st G => ev_aload_nF rfl rfl,
  fun v0 v1 v2 x st G => ev_iload_n rfl rfl,
  fun ls st G => ev_iconst rfl rfl,
  fun x y ls st G => ev_iadd rfl,
  fun i r ls st G => ev_iaload rfl,
  fun v1 v2 v3 x st G => ev_aload_nF rfl rfl,
  fun v0 v1 v2 x st G => ev_iload_n rfl rfl,
  fun ls st G => ev_iconst rfl rfl,
  fun x y ls st G => ev_iadd rfl⟩
set_option maxRecDepth 100000 in
theorem e_180_10 {X : mc_X} : (∀ (i : Int32) (r : Value) (ls st : List Value) (G : mc_H), mc_ev X 180 904 ls (.int i :: r :: st) G = (mc_getA X G 0 r i).bind (fun x => mc_ev X 180 905 ls (.int x :: st) G)) ∧
  (∀ (v1 v2 v3 : Value) (x : UInt32) (st : List Value) (G : mc_H), mc_ev X 180 905 [.float x, v1, v2, v3] st G = mc_ev X 180 906 [.float x, v1, v2, v3] (.float x :: st) G) ∧
  (∀ (v0 v1 v2 : Value) (x : Int32) (st : List Value) (G : mc_H), mc_ev X 180 906 [v0, v1, v2, .int x] st G = mc_ev X 180 907 [v0, v1, v2, .int x] (.int x :: st) G) ∧
  (∀ (ls st : List Value) (G : mc_H), mc_ev X 180 907 ls st G = mc_ev X 180 908 ls (.int 3 :: st) G) ∧
  (∀ (x y : Int32) (ls st : List Value) (G : mc_H), mc_ev X 180 908 ls (.int y :: .int x :: st) G = mc_ev X 180 909 ls (.int (x + y) :: st) G) ∧
  (∀ (i : Int32) (r : Value) (ls st : List Value) (G : mc_H), mc_ev X 180 909 ls (.int i :: r :: st) G = (mc_getA X G 0 r i).bind (fun x => mc_ev X 180 910 ls (.int x :: st) G)) ∧
  (∀ (a0 : Int32) (a1 : Int32) (a2 : Int32) (r : Nat) (ls st : List Value) (G : mc_H), st.length ≤ 4 → mc_cls G r = some 8 → mc_ev X 180 910 ls (.int a2 :: .int a1 :: .int a0 :: .ref r :: st) G = (mc_ev X 165 0 [.ref r, .int a0, .int a1, .int a2, .null] [] G).bind (fun q => mc_ev X 180 913 ls (q.1.toList ++ st) q.2)) ∧
  (∀ (x y : Int32) (ls st : List Value) (G : mc_H), mc_ev X 180 913 ls (.int y :: .int x :: st) G = if x = y then mc_ev X 180 1224 ls st G else mc_ev X 180 916 ls st G) ∧
  (∀ (ls st : List Value) (G : mc_H), mc_ev X 180 916 ls st G = mc_ev X 180 917 ls (.int 0 :: st) G) ∧
  (∀ (v : Int32) (ls : List Value) (G : mc_H), (v = 0 ∨ v = 1) → mc_ev X 180 917 ls [.int v] G = some (some (.int v), G)) ∧
  (∀ (v0 v2 v3 : Value) (x : Nat) (st : List Value) (G : mc_H), mc_ev X 180 918 [v0, .ref x, v2, v3] st G = mc_ev X 180 919 [v0, .ref x, v2, v3] (.ref x :: st) G) ∧
  (∀ (v1 v2 v3 : Value) (x : UInt32) (st : List Value) (G : mc_H), mc_ev X 180 919 [.float x, v1, v2, v3] st G = mc_ev X 180 920 [.float x, v1, v2, v3] (.float x :: st) G) ∧
  (∀ (v0 v1 v2 : Value) (x : Int32) (st : List Value) (G : mc_H), mc_ev X 180 920 [v0, v1, v2, .int x] st G = mc_ev X 180 921 [v0, v1, v2, .int x] (.int x :: st) G) ∧
  (∀ (ls st : List Value) (G : mc_H), mc_ev X 180 921 ls st G = mc_ev X 180 922 ls (.int 1 :: st) G) ∧
  (∀ (x y : Int32) (ls st : List Value) (G : mc_H), mc_ev X 180 922 ls (.int y :: .int x :: st) G = mc_ev X 180 923 ls (.int (x + y) :: st) G) ∧
  (∀ (i : Int32) (r : Value) (ls st : List Value) (G : mc_H), mc_ev X 180 923 ls (.int i :: r :: st) G = (mc_getA X G 0 r i).bind (fun x => mc_ev X 180 924 ls (.int x :: st) G)) ∧
  (∀ (v1 v2 v3 : Value) (x : UInt32) (st : List Value) (G : mc_H), mc_ev X 180 924 [.float x, v1, v2, v3] st G = mc_ev X 180 925 [.float x, v1, v2, v3] (.float x :: st) G) ∧
  (∀ (v0 v1 v2 : Value) (x : Int32) (st : List Value) (G : mc_H), mc_ev X 180 925 [v0, v1, v2, .int x] st G = mc_ev X 180 926 [v0, v1, v2, .int x] (.int x :: st) G) ∧
  (∀ (ls st : List Value) (G : mc_H), mc_ev X 180 926 ls st G = mc_ev X 180 927 ls (.int 2 :: st) G) ∧
  (∀ (x y : Int32) (ls st : List Value) (G : mc_H), mc_ev X 180 927 ls (.int y :: .int x :: st) G = mc_ev X 180 928 ls (.int (x + y) :: st) G) ∧
  (∀ (i : Int32) (r : Value) (ls st : List Value) (G : mc_H), mc_ev X 180 928 ls (.int i :: r :: st) G = (mc_getA X G 0 r i).bind (fun x => mc_ev X 180 929 ls (.int x :: st) G)) ∧
  (∀ (v1 v2 v3 : Value) (x : UInt32) (st : List Value) (G : mc_H), mc_ev X 180 929 [.float x, v1, v2, v3] st G = mc_ev X 180 930 [.float x, v1, v2, v3] (.float x :: st) G) ∧
  (∀ (v0 v1 v2 : Value) (x : Int32) (st : List Value) (G : mc_H), mc_ev X 180 930 [v0, v1, v2, .int x] st G = mc_ev X 180 931 [v0, v1, v2, .int x] (.int x :: st) G) ∧
  (∀ (ls st : List Value) (G : mc_H), mc_ev X 180 931 ls st G = mc_ev X 180 932 ls (.int 3 :: st) G) ∧
  (∀ (x y : Int32) (ls st : List Value) (G : mc_H), mc_ev X 180 932 ls (.int y :: .int x :: st) G = mc_ev X 180 933 ls (.int (x + y) :: st) G) ∧
  (∀ (i : Int32) (r : Value) (ls st : List Value) (G : mc_H), mc_ev X 180 933 ls (.int i :: r :: st) G = (mc_getA X G 0 r i).bind (fun x => mc_ev X 180 934 ls (.int x :: st) G)) ∧
  (∀ (v1 v2 v3 : Value) (x : UInt32) (st : List Value) (G : mc_H), mc_ev X 180 934 [.float x, v1, v2, v3] st G = mc_ev X 180 935 [.float x, v1, v2, v3] (.float x :: st) G) ∧
  (∀ (v0 v1 v2 : Value) (x : Int32) (st : List Value) (G : mc_H), mc_ev X 180 935 [v0, v1, v2, .int x] st G = mc_ev X 180 936 [v0, v1, v2, .int x] (.int x :: st) G) ∧
  (∀ (ls st : List Value) (G : mc_H), mc_ev X 180 936 ls st G = mc_ev X 180 937 ls (.int 4 :: st) G) ∧
  (∀ (x y : Int32) (ls st : List Value) (G : mc_H), mc_ev X 180 937 ls (.int y :: .int x :: st) G = mc_ev X 180 938 ls (.int (x + y) :: st) G) ∧
  (∀ (i : Int32) (r : Value) (ls st : List Value) (G : mc_H), mc_ev X 180 938 ls (.int i :: r :: st) G = (mc_getA X G 0 r i).bind (fun x => mc_ev X 180 939 ls (.int x :: st) G)) ∧
  (∀ (v1 v2 v3 : Value) (x : UInt32) (st : List Value) (G : mc_H), mc_ev X 180 939 [.float x, v1, v2, v3] st G = mc_ev X 180 940 [.float x, v1, v2, v3] (.float x :: st) G) ∧
  (∀ (v0 v1 v2 : Value) (x : Int32) (st : List Value) (G : mc_H), mc_ev X 180 940 [v0, v1, v2, .int x] st G = mc_ev X 180 941 [v0, v1, v2, .int x] (.int x :: st) G) ∧
  (∀ (ls st : List Value) (G : mc_H), mc_ev X 180 941 ls st G = mc_ev X 180 942 ls (.int 5 :: st) G) ∧
  (∀ (x y : Int32) (ls st : List Value) (G : mc_H), mc_ev X 180 942 ls (.int y :: .int x :: st) G = mc_ev X 180 943 ls (.int (x + y) :: st) G) ∧
  (∀ (i : Int32) (r : Value) (ls st : List Value) (G : mc_H), mc_ev X 180 943 ls (.int i :: r :: st) G = (mc_getA X G 0 r i).bind (fun x => mc_ev X 180 944 ls (.int x :: st) G)) ∧
  (∀ (a0 : Int32) (a1 : Int32) (a2 : Int32) (a3 : Int32) (a4 : Int32) (r : Nat) (ls st : List Value) (G : mc_H), st.length ≤ 4 → mc_cls G r = some 7 → mc_ev X 180 944 ls (.int a4 :: .int a3 :: .int a2 :: .int a1 :: .int a0 :: .ref r :: st) G = (mc_ev X 89 0 [.ref r, .int a0, .int a1, .int a2, .int a3, .int a4, .null] [] G).bind (fun q => mc_ev X 180 947 ls (q.1.toList ++ st) q.2)) ∧
  (∀ (v0 v1 v3 : Value) (x : Nat) (st : List Value) (G : mc_H), mc_ev X 180 947 [v0, v1, .ref x, v3] st G = mc_ev X 180 948 [v0, v1, .ref x, v3] (.ref x :: st) G) ∧
  (∀ (v1 v2 v3 : Value) (x : UInt32) (st : List Value) (G : mc_H), mc_ev X 180 948 [.float x, v1, v2, v3] st G = mc_ev X 180 949 [.float x, v1, v2, v3] (.float x :: st) G) ∧
  (∀ (v0 v1 v2 : Value) (x : Int32) (st : List Value) (G : mc_H), mc_ev X 180 949 [v0, v1, v2, .int x] st G = mc_ev X 180 950 [v0, v1, v2, .int x] (.int x :: st) G) ∧
  (∀ (ls st : List Value) (G : mc_H), mc_ev X 180 950 ls st G = mc_ev X 180 951 ls (.int 1 :: st) G) ∧
  (∀ (x y : Int32) (ls st : List Value) (G : mc_H), mc_ev X 180 951 ls (.int y :: .int x :: st) G = mc_ev X 180 952 ls (.int (x + y) :: st) G) ∧
  (∀ (i : Int32) (r : Value) (ls st : List Value) (G : mc_H), mc_ev X 180 952 ls (.int i :: r :: st) G = (mc_getA X G 0 r i).bind (fun x => mc_ev X 180 953 ls (.int x :: st) G)) ∧
  (∀ (v1 v2 v3 : Value) (x : UInt32) (st : List Value) (G : mc_H), mc_ev X 180 953 [.float x, v1, v2, v3] st G = mc_ev X 180 954 [.float x, v1, v2, v3] (.float x :: st) G) ∧
  (∀ (v0 v1 v2 : Value) (x : Int32) (st : List Value) (G : mc_H), mc_ev X 180 954 [v0, v1, v2, .int x] st G = mc_ev X 180 955 [v0, v1, v2, .int x] (.int x :: st) G) ∧
  (∀ (ls st : List Value) (G : mc_H), mc_ev X 180 955 ls st G = mc_ev X 180 956 ls (.int 2 :: st) G) ∧
  (∀ (x y : Int32) (ls st : List Value) (G : mc_H), mc_ev X 180 956 ls (.int y :: .int x :: st) G = mc_ev X 180 957 ls (.int (x + y) :: st) G) ∧
  (∀ (i : Int32) (r : Value) (ls st : List Value) (G : mc_H), mc_ev X 180 957 ls (.int i :: r :: st) G = (mc_getA X G 0 r i).bind (fun x => mc_ev X 180 958 ls (.int x :: st) G)) ∧
  (∀ (v1 v2 v3 : Value) (x : UInt32) (st : List Value) (G : mc_H), mc_ev X 180 958 [.float x, v1, v2, v3] st G = mc_ev X 180 959 [.float x, v1, v2, v3] (.float x :: st) G) ∧
  (∀ (v0 v1 v2 : Value) (x : Int32) (st : List Value) (G : mc_H), mc_ev X 180 959 [v0, v1, v2, .int x] st G = mc_ev X 180 960 [v0, v1, v2, .int x] (.int x :: st) G) ∧
  (∀ (ls st : List Value) (G : mc_H), mc_ev X 180 960 ls st G = mc_ev X 180 961 ls (.int 3 :: st) G) ∧
  (∀ (x y : Int32) (ls st : List Value) (G : mc_H), mc_ev X 180 961 ls (.int y :: .int x :: st) G = mc_ev X 180 962 ls (.int (x + y) :: st) G) ∧
  (∀ (i : Int32) (r : Value) (ls st : List Value) (G : mc_H), mc_ev X 180 962 ls (.int i :: r :: st) G = (mc_getA X G 0 r i).bind (fun x => mc_ev X 180 963 ls (.int x :: st) G)) ∧
  (∀ (v1 v2 v3 : Value) (x : UInt32) (st : List Value) (G : mc_H), mc_ev X 180 963 [.float x, v1, v2, v3] st G = mc_ev X 180 964 [.float x, v1, v2, v3] (.float x :: st) G) ∧
  (∀ (v0 v1 v2 : Value) (x : Int32) (st : List Value) (G : mc_H), mc_ev X 180 964 [v0, v1, v2, .int x] st G = mc_ev X 180 965 [v0, v1, v2, .int x] (.int x :: st) G) ∧
  (∀ (ls st : List Value) (G : mc_H), mc_ev X 180 965 ls st G = mc_ev X 180 966 ls (.int 4 :: st) G) ∧
  (∀ (x y : Int32) (ls st : List Value) (G : mc_H), mc_ev X 180 966 ls (.int y :: .int x :: st) G = mc_ev X 180 967 ls (.int (x + y) :: st) G) ∧
  (∀ (i : Int32) (r : Value) (ls st : List Value) (G : mc_H), mc_ev X 180 967 ls (.int i :: r :: st) G = (mc_getA X G 0 r i).bind (fun x => mc_ev X 180 968 ls (.int x :: st) G)) ∧
  (∀ (v1 v2 v3 : Value) (x : UInt32) (st : List Value) (G : mc_H), mc_ev X 180 968 [.float x, v1, v2, v3] st G = mc_ev X 180 969 [.float x, v1, v2, v3] (.float x :: st) G) ∧
  (∀ (v0 v1 v2 : Value) (x : Int32) (st : List Value) (G : mc_H), mc_ev X 180 969 [v0, v1, v2, .int x] st G = mc_ev X 180 970 [v0, v1, v2, .int x] (.int x :: st) G) := ⟨fun i r ls st G => ev_iaload rfl,
  fun v1 v2 v3 x st G => ev_aload_nF rfl rfl,
  fun v0 v1 v2 x st G => ev_iload_n rfl rfl,
  fun ls st G => ev_iconst rfl rfl,
  fun x y ls st G => ev_iadd rfl,
  fun i r ls st G => ev_iaload rfl,
  fun a0 a1 a2 r ls st G hr hG => ev_virt (As := [.int a0, .int a1, .int a2]) rfl rfl rfl rfl rfl rfl hr hG,
  fun x y ls st G => ev_br rfl rfl,
  fun ls st G => ev_iconst rfl rfl,
  fun v ls G hv => ev_zreturn rfl rfl hv,
  fun v0 v2 v3 x st G => ev_aload_n rfl rfl,
  fun v1 v2 v3 x st G => ev_aload_nF rfl rfl,
  fun v0 v1 v2 x st G => ev_iload_n rfl rfl,
  fun ls st G => ev_iconst rfl rfl,
  fun x y ls st G => ev_iadd rfl,
  fun i r ls st G => ev_iaload rfl,
  fun v1 v2 v3 x st G => ev_aload_nF rfl rfl,
  fun v0 v1 v2 x st G => ev_iload_n rfl rfl,
  fun ls st G => ev_iconst rfl rfl,
  fun x y ls st G => ev_iadd rfl,
  fun i r ls st G => ev_iaload rfl,
  fun v1 v2 v3 x st G => ev_aload_nF rfl rfl,
  fun v0 v1 v2 x st G => ev_iload_n rfl rfl,
  fun ls st G => ev_iconst rfl rfl,
  fun x y ls st G => ev_iadd rfl,
  fun i r ls st G => ev_iaload rfl,
  fun v1 v2 v3 x st G => ev_aload_nF rfl rfl,
  fun v0 v1 v2 x st G => ev_iload_n rfl rfl,
  fun ls st G => ev_iconst rfl rfl,
  fun x y ls st G => ev_iadd rfl,
  fun i r ls st G => ev_iaload rfl,
  fun v1 v2 v3 x st G => ev_aload_nF rfl rfl,
  fun v0 v1 v2 x st G => ev_iload_n rfl rfl,
  fun ls st G => ev_iconst rfl rfl,
  fun x y ls st G => ev_iadd rfl,
  fun i r ls st G => ev_iaload rfl,
  fun a0 a1 a2 a3 a4 r ls st G hr hG => ev_virt (As := [.int a0, .int a1, .int a2, .int a3, .int a4]) rfl rfl rfl rfl rfl rfl hr hG,
  fun v0 v1 v3 x st G => ev_aload_n rfl rfl,
  fun v1 v2 v3 x st G => ev_aload_nF rfl rfl,
  fun v0 v1 v2 x st G => ev_iload_n rfl rfl,
  fun ls st G => ev_iconst rfl rfl,
  fun x y ls st G => ev_iadd rfl,
  fun i r ls st G => ev_iaload rfl,
  fun v1 v2 v3 x st G => ev_aload_nF rfl rfl,
  fun v0 v1 v2 x st G => ev_iload_n rfl rfl,
  fun ls st G => ev_iconst rfl rfl,
  fun x y ls st G => ev_iadd rfl,
  fun i r ls st G => ev_iaload rfl,
  fun v1 v2 v3 x st G => ev_aload_nF rfl rfl,
  fun v0 v1 v2 x st G => ev_iload_n rfl rfl,
  fun ls st G => ev_iconst rfl rfl,
  fun x y ls st G => ev_iadd rfl,
  fun i r ls st G => ev_iaload rfl,
  fun v1 v2 v3 x st G => ev_aload_nF rfl rfl,
  fun v0 v1 v2 x st G => ev_iload_n rfl rfl,
  fun ls st G => ev_iconst rfl rfl,
  fun x y ls st G => ev_iadd rfl,
  fun i r ls st G => ev_iaload rfl,
  fun v1 v2 v3 x st G => ev_aload_nF rfl rfl,
  fun v0 v1 v2 x st G => ev_iload_n rfl rfl⟩
set_option maxRecDepth 100000 in
theorem e_180_11 {X : mc_X} : (∀ (ls st : List Value) (G : mc_H), mc_ev X 180 970 ls st G = mc_ev X 180 971 ls (.int 5 :: st) G) ∧
  (∀ (x y : Int32) (ls st : List Value) (G : mc_H), mc_ev X 180 971 ls (.int y :: .int x :: st) G = mc_ev X 180 972 ls (.int (x + y) :: st) G) ∧
  (∀ (i : Int32) (r : Value) (ls st : List Value) (G : mc_H), mc_ev X 180 972 ls (.int i :: r :: st) G = (mc_getA X G 0 r i).bind (fun x => mc_ev X 180 973 ls (.int x :: st) G)) ∧
  (∀ (a0 : Int32) (a1 : Int32) (a2 : Int32) (a3 : Int32) (a4 : Int32) (r : Nat) (ls st : List Value) (G : mc_H), st.length ≤ 4 → mc_cls G r = some 8 → mc_ev X 180 973 ls (.int a4 :: .int a3 :: .int a2 :: .int a1 :: .int a0 :: .ref r :: st) G = (mc_ev X 167 0 [.ref r, .int a0, .int a1, .int a2, .int a3, .int a4] [] G).bind (fun q => mc_ev X 180 976 ls (q.1.toList ++ st) q.2)) ∧
  (∀ (x y : Int32) (ls st : List Value) (G : mc_H), mc_ev X 180 976 ls (.int y :: .int x :: st) G = if x = y then mc_ev X 180 1224 ls st G else mc_ev X 180 979 ls st G) ∧
  (∀ (ls st : List Value) (G : mc_H), mc_ev X 180 979 ls st G = mc_ev X 180 980 ls (.int 0 :: st) G) ∧
  (∀ (v : Int32) (ls : List Value) (G : mc_H), (v = 0 ∨ v = 1) → mc_ev X 180 980 ls [.int v] G = some (some (.int v), G)) ∧
  (∀ (v0 v2 v3 : Value) (x : Nat) (st : List Value) (G : mc_H), mc_ev X 180 981 [v0, .ref x, v2, v3] st G = mc_ev X 180 982 [v0, .ref x, v2, v3] (.ref x :: st) G) ∧
  (∀ (v1 v2 v3 : Value) (x : UInt32) (st : List Value) (G : mc_H), mc_ev X 180 982 [.float x, v1, v2, v3] st G = mc_ev X 180 983 [.float x, v1, v2, v3] (.float x :: st) G) ∧
  (∀ (v0 v1 v2 : Value) (x : Int32) (st : List Value) (G : mc_H), mc_ev X 180 983 [v0, v1, v2, .int x] st G = mc_ev X 180 984 [v0, v1, v2, .int x] (.int x :: st) G) ∧
  (∀ (ls st : List Value) (G : mc_H), mc_ev X 180 984 ls st G = mc_ev X 180 985 ls (.int 1 :: st) G) ∧
  (∀ (x y : Int32) (ls st : List Value) (G : mc_H), mc_ev X 180 985 ls (.int y :: .int x :: st) G = mc_ev X 180 986 ls (.int (x + y) :: st) G) ∧
  (∀ (i : Int32) (r : Value) (ls st : List Value) (G : mc_H), mc_ev X 180 986 ls (.int i :: r :: st) G = (mc_getA X G 0 r i).bind (fun x => mc_ev X 180 987 ls (.int x :: st) G)) ∧
  (∀ (v1 v2 v3 : Value) (x : UInt32) (st : List Value) (G : mc_H), mc_ev X 180 987 [.float x, v1, v2, v3] st G = mc_ev X 180 988 [.float x, v1, v2, v3] (.float x :: st) G) ∧
  (∀ (v0 v1 v2 : Value) (x : Int32) (st : List Value) (G : mc_H), mc_ev X 180 988 [v0, v1, v2, .int x] st G = mc_ev X 180 989 [v0, v1, v2, .int x] (.int x :: st) G) ∧
  (∀ (ls st : List Value) (G : mc_H), mc_ev X 180 989 ls st G = mc_ev X 180 990 ls (.int 2 :: st) G) ∧
  (∀ (x y : Int32) (ls st : List Value) (G : mc_H), mc_ev X 180 990 ls (.int y :: .int x :: st) G = mc_ev X 180 991 ls (.int (x + y) :: st) G) ∧
  (∀ (i : Int32) (r : Value) (ls st : List Value) (G : mc_H), mc_ev X 180 991 ls (.int i :: r :: st) G = (mc_getA X G 0 r i).bind (fun x => mc_ev X 180 992 ls (.int x :: st) G)) ∧
  (∀ (v1 v2 v3 : Value) (x : UInt32) (st : List Value) (G : mc_H), mc_ev X 180 992 [.float x, v1, v2, v3] st G = mc_ev X 180 993 [.float x, v1, v2, v3] (.float x :: st) G) ∧
  (∀ (v0 v1 v2 : Value) (x : Int32) (st : List Value) (G : mc_H), mc_ev X 180 993 [v0, v1, v2, .int x] st G = mc_ev X 180 994 [v0, v1, v2, .int x] (.int x :: st) G) ∧
  (∀ (ls st : List Value) (G : mc_H), mc_ev X 180 994 ls st G = mc_ev X 180 995 ls (.int 3 :: st) G) ∧
  (∀ (x y : Int32) (ls st : List Value) (G : mc_H), mc_ev X 180 995 ls (.int y :: .int x :: st) G = mc_ev X 180 996 ls (.int (x + y) :: st) G) ∧
  (∀ (i : Int32) (r : Value) (ls st : List Value) (G : mc_H), mc_ev X 180 996 ls (.int i :: r :: st) G = (mc_getA X G 0 r i).bind (fun x => mc_ev X 180 997 ls (.int x :: st) G)) ∧
  (∀ (v1 v2 v3 : Value) (x : UInt32) (st : List Value) (G : mc_H), mc_ev X 180 997 [.float x, v1, v2, v3] st G = mc_ev X 180 998 [.float x, v1, v2, v3] (.float x :: st) G) ∧
  (∀ (v0 v1 v2 : Value) (x : Int32) (st : List Value) (G : mc_H), mc_ev X 180 998 [v0, v1, v2, .int x] st G = mc_ev X 180 999 [v0, v1, v2, .int x] (.int x :: st) G) ∧
  (∀ (ls st : List Value) (G : mc_H), mc_ev X 180 999 ls st G = mc_ev X 180 1000 ls (.int 4 :: st) G) ∧
  (∀ (x y : Int32) (ls st : List Value) (G : mc_H), mc_ev X 180 1000 ls (.int y :: .int x :: st) G = mc_ev X 180 1001 ls (.int (x + y) :: st) G) ∧
  (∀ (i : Int32) (r : Value) (ls st : List Value) (G : mc_H), mc_ev X 180 1001 ls (.int i :: r :: st) G = (mc_getA X G 0 r i).bind (fun x => mc_ev X 180 1002 ls (.int x :: st) G)) ∧
  (∀ (a0 : Int32) (a1 : Int32) (a2 : Int32) (a3 : Int32) (r : Nat) (ls st : List Value) (G : mc_H), st.length ≤ 4 → mc_cls G r = some 7 → mc_ev X 180 1002 ls (.int a3 :: .int a2 :: .int a1 :: .int a0 :: .ref r :: st) G = (mc_ev X 90 0 [.ref r, .int a0, .int a1, .int a2, .int a3] [] G).bind (fun q => mc_ev X 180 1005 ls (q.1.toList ++ st) q.2)) ∧
  (∀ (v0 v1 v3 : Value) (x : Nat) (st : List Value) (G : mc_H), mc_ev X 180 1005 [v0, v1, .ref x, v3] st G = mc_ev X 180 1006 [v0, v1, .ref x, v3] (.ref x :: st) G) ∧
  (∀ (v1 v2 v3 : Value) (x : UInt32) (st : List Value) (G : mc_H), mc_ev X 180 1006 [.float x, v1, v2, v3] st G = mc_ev X 180 1007 [.float x, v1, v2, v3] (.float x :: st) G) ∧
  (∀ (v0 v1 v2 : Value) (x : Int32) (st : List Value) (G : mc_H), mc_ev X 180 1007 [v0, v1, v2, .int x] st G = mc_ev X 180 1008 [v0, v1, v2, .int x] (.int x :: st) G) ∧
  (∀ (ls st : List Value) (G : mc_H), mc_ev X 180 1008 ls st G = mc_ev X 180 1009 ls (.int 1 :: st) G) ∧
  (∀ (x y : Int32) (ls st : List Value) (G : mc_H), mc_ev X 180 1009 ls (.int y :: .int x :: st) G = mc_ev X 180 1010 ls (.int (x + y) :: st) G) ∧
  (∀ (i : Int32) (r : Value) (ls st : List Value) (G : mc_H), mc_ev X 180 1010 ls (.int i :: r :: st) G = (mc_getA X G 0 r i).bind (fun x => mc_ev X 180 1011 ls (.int x :: st) G)) ∧
  (∀ (v1 v2 v3 : Value) (x : UInt32) (st : List Value) (G : mc_H), mc_ev X 180 1011 [.float x, v1, v2, v3] st G = mc_ev X 180 1012 [.float x, v1, v2, v3] (.float x :: st) G) ∧
  (∀ (v0 v1 v2 : Value) (x : Int32) (st : List Value) (G : mc_H), mc_ev X 180 1012 [v0, v1, v2, .int x] st G = mc_ev X 180 1013 [v0, v1, v2, .int x] (.int x :: st) G) ∧
  (∀ (ls st : List Value) (G : mc_H), mc_ev X 180 1013 ls st G = mc_ev X 180 1014 ls (.int 2 :: st) G) ∧
  (∀ (x y : Int32) (ls st : List Value) (G : mc_H), mc_ev X 180 1014 ls (.int y :: .int x :: st) G = mc_ev X 180 1015 ls (.int (x + y) :: st) G) ∧
  (∀ (i : Int32) (r : Value) (ls st : List Value) (G : mc_H), mc_ev X 180 1015 ls (.int i :: r :: st) G = (mc_getA X G 0 r i).bind (fun x => mc_ev X 180 1016 ls (.int x :: st) G)) ∧
  (∀ (v1 v2 v3 : Value) (x : UInt32) (st : List Value) (G : mc_H), mc_ev X 180 1016 [.float x, v1, v2, v3] st G = mc_ev X 180 1017 [.float x, v1, v2, v3] (.float x :: st) G) ∧
  (∀ (v0 v1 v2 : Value) (x : Int32) (st : List Value) (G : mc_H), mc_ev X 180 1017 [v0, v1, v2, .int x] st G = mc_ev X 180 1018 [v0, v1, v2, .int x] (.int x :: st) G) ∧
  (∀ (ls st : List Value) (G : mc_H), mc_ev X 180 1018 ls st G = mc_ev X 180 1019 ls (.int 3 :: st) G) ∧
  (∀ (x y : Int32) (ls st : List Value) (G : mc_H), mc_ev X 180 1019 ls (.int y :: .int x :: st) G = mc_ev X 180 1020 ls (.int (x + y) :: st) G) ∧
  (∀ (i : Int32) (r : Value) (ls st : List Value) (G : mc_H), mc_ev X 180 1020 ls (.int i :: r :: st) G = (mc_getA X G 0 r i).bind (fun x => mc_ev X 180 1021 ls (.int x :: st) G)) ∧
  (∀ (v1 v2 v3 : Value) (x : UInt32) (st : List Value) (G : mc_H), mc_ev X 180 1021 [.float x, v1, v2, v3] st G = mc_ev X 180 1022 [.float x, v1, v2, v3] (.float x :: st) G) ∧
  (∀ (v0 v1 v2 : Value) (x : Int32) (st : List Value) (G : mc_H), mc_ev X 180 1022 [v0, v1, v2, .int x] st G = mc_ev X 180 1023 [v0, v1, v2, .int x] (.int x :: st) G) ∧
  (∀ (ls st : List Value) (G : mc_H), mc_ev X 180 1023 ls st G = mc_ev X 180 1024 ls (.int 4 :: st) G) ∧
  (∀ (x y : Int32) (ls st : List Value) (G : mc_H), mc_ev X 180 1024 ls (.int y :: .int x :: st) G = mc_ev X 180 1025 ls (.int (x + y) :: st) G) ∧
  (∀ (i : Int32) (r : Value) (ls st : List Value) (G : mc_H), mc_ev X 180 1025 ls (.int i :: r :: st) G = (mc_getA X G 0 r i).bind (fun x => mc_ev X 180 1026 ls (.int x :: st) G)) ∧
  (∀ (a0 : Int32) (a1 : Int32) (a2 : Int32) (a3 : Int32) (r : Nat) (ls st : List Value) (G : mc_H), st.length ≤ 4 → mc_cls G r = some 8 → mc_ev X 180 1026 ls (.int a3 :: .int a2 :: .int a1 :: .int a0 :: .ref r :: st) G = (mc_ev X 168 0 [.ref r, .int a0, .int a1, .int a2, .int a3] [] G).bind (fun q => mc_ev X 180 1029 ls (q.1.toList ++ st) q.2)) ∧
  (∀ (x y : Int32) (ls st : List Value) (G : mc_H), mc_ev X 180 1029 ls (.int y :: .int x :: st) G = if x = y then mc_ev X 180 1224 ls st G else mc_ev X 180 1032 ls st G) ∧
  (∀ (ls st : List Value) (G : mc_H), mc_ev X 180 1032 ls st G = mc_ev X 180 1033 ls (.int 0 :: st) G) ∧
  (∀ (v : Int32) (ls : List Value) (G : mc_H), (v = 0 ∨ v = 1) → mc_ev X 180 1033 ls [.int v] G = some (some (.int v), G)) ∧
  (∀ (v0 v2 v3 : Value) (x : Nat) (st : List Value) (G : mc_H), mc_ev X 180 1034 [v0, .ref x, v2, v3] st G = mc_ev X 180 1035 [v0, .ref x, v2, v3] (.ref x :: st) G) ∧
  (∀ (v1 v2 v3 : Value) (x : UInt32) (st : List Value) (G : mc_H), mc_ev X 180 1035 [.float x, v1, v2, v3] st G = mc_ev X 180 1036 [.float x, v1, v2, v3] (.float x :: st) G) ∧
  (∀ (v0 v1 v2 : Value) (x : Int32) (st : List Value) (G : mc_H), mc_ev X 180 1036 [v0, v1, v2, .int x] st G = mc_ev X 180 1037 [v0, v1, v2, .int x] (.int x :: st) G) ∧
  (∀ (ls st : List Value) (G : mc_H), mc_ev X 180 1037 ls st G = mc_ev X 180 1038 ls (.int 1 :: st) G) ∧
  (∀ (x y : Int32) (ls st : List Value) (G : mc_H), mc_ev X 180 1038 ls (.int y :: .int x :: st) G = mc_ev X 180 1039 ls (.int (x + y) :: st) G) ∧
  (∀ (i : Int32) (r : Value) (ls st : List Value) (G : mc_H), mc_ev X 180 1039 ls (.int i :: r :: st) G = (mc_getA X G 0 r i).bind (fun x => mc_ev X 180 1040 ls (.int x :: st) G)) := ⟨fun ls st G => ev_iconst rfl rfl,
  fun x y ls st G => ev_iadd rfl,
  fun i r ls st G => ev_iaload rfl,
  fun a0 a1 a2 a3 a4 r ls st G hr hG => ev_virt (As := [.int a0, .int a1, .int a2, .int a3, .int a4]) rfl rfl rfl rfl rfl rfl hr hG,
  fun x y ls st G => ev_br rfl rfl,
  fun ls st G => ev_iconst rfl rfl,
  fun v ls G hv => ev_zreturn rfl rfl hv,
  fun v0 v2 v3 x st G => ev_aload_n rfl rfl,
  fun v1 v2 v3 x st G => ev_aload_nF rfl rfl,
  fun v0 v1 v2 x st G => ev_iload_n rfl rfl,
  fun ls st G => ev_iconst rfl rfl,
  fun x y ls st G => ev_iadd rfl,
  fun i r ls st G => ev_iaload rfl,
  fun v1 v2 v3 x st G => ev_aload_nF rfl rfl,
  fun v0 v1 v2 x st G => ev_iload_n rfl rfl,
  fun ls st G => ev_iconst rfl rfl,
  fun x y ls st G => ev_iadd rfl,
  fun i r ls st G => ev_iaload rfl,
  fun v1 v2 v3 x st G => ev_aload_nF rfl rfl,
  fun v0 v1 v2 x st G => ev_iload_n rfl rfl,
  fun ls st G => ev_iconst rfl rfl,
  fun x y ls st G => ev_iadd rfl,
  fun i r ls st G => ev_iaload rfl,
  fun v1 v2 v3 x st G => ev_aload_nF rfl rfl,
  fun v0 v1 v2 x st G => ev_iload_n rfl rfl,
  fun ls st G => ev_iconst rfl rfl,
  fun x y ls st G => ev_iadd rfl,
  fun i r ls st G => ev_iaload rfl,
  fun a0 a1 a2 a3 r ls st G hr hG => ev_virt (As := [.int a0, .int a1, .int a2, .int a3]) rfl rfl rfl rfl rfl rfl hr hG,
  fun v0 v1 v3 x st G => ev_aload_n rfl rfl,
  fun v1 v2 v3 x st G => ev_aload_nF rfl rfl,
  fun v0 v1 v2 x st G => ev_iload_n rfl rfl,
  fun ls st G => ev_iconst rfl rfl,
  fun x y ls st G => ev_iadd rfl,
  fun i r ls st G => ev_iaload rfl,
  fun v1 v2 v3 x st G => ev_aload_nF rfl rfl,
  fun v0 v1 v2 x st G => ev_iload_n rfl rfl,
  fun ls st G => ev_iconst rfl rfl,
  fun x y ls st G => ev_iadd rfl,
  fun i r ls st G => ev_iaload rfl,
  fun v1 v2 v3 x st G => ev_aload_nF rfl rfl,
  fun v0 v1 v2 x st G => ev_iload_n rfl rfl,
  fun ls st G => ev_iconst rfl rfl,
  fun x y ls st G => ev_iadd rfl,
  fun i r ls st G => ev_iaload rfl,
  fun v1 v2 v3 x st G => ev_aload_nF rfl rfl,
  fun v0 v1 v2 x st G => ev_iload_n rfl rfl,
  fun ls st G => ev_iconst rfl rfl,
  fun x y ls st G => ev_iadd rfl,
  fun i r ls st G => ev_iaload rfl,
  fun a0 a1 a2 a3 r ls st G hr hG => ev_virt (As := [.int a0, .int a1, .int a2, .int a3]) rfl rfl rfl rfl rfl rfl hr hG,
  fun x y ls st G => ev_br rfl rfl,
  fun ls st G => ev_iconst rfl rfl,
  fun v ls G hv => ev_zreturn rfl rfl hv,
  fun v0 v2 v3 x st G => ev_aload_n rfl rfl,
  fun v1 v2 v3 x st G => ev_aload_nF rfl rfl,
  fun v0 v1 v2 x st G => ev_iload_n rfl rfl,
  fun ls st G => ev_iconst rfl rfl,
  fun x y ls st G => ev_iadd rfl,
  fun i r ls st G => ev_iaload rfl⟩
set_option maxRecDepth 100000 in
theorem e_180_12 {X : mc_X} : (∀ (v1 v2 v3 : Value) (x : UInt32) (st : List Value) (G : mc_H), mc_ev X 180 1040 [.float x, v1, v2, v3] st G = mc_ev X 180 1041 [.float x, v1, v2, v3] (.float x :: st) G) ∧
  (∀ (v0 v1 v2 : Value) (x : Int32) (st : List Value) (G : mc_H), mc_ev X 180 1041 [v0, v1, v2, .int x] st G = mc_ev X 180 1042 [v0, v1, v2, .int x] (.int x :: st) G) ∧
  (∀ (ls st : List Value) (G : mc_H), mc_ev X 180 1042 ls st G = mc_ev X 180 1043 ls (.int 2 :: st) G) ∧
  (∀ (x y : Int32) (ls st : List Value) (G : mc_H), mc_ev X 180 1043 ls (.int y :: .int x :: st) G = mc_ev X 180 1044 ls (.int (x + y) :: st) G) ∧
  (∀ (i : Int32) (r : Value) (ls st : List Value) (G : mc_H), mc_ev X 180 1044 ls (.int i :: r :: st) G = (mc_getA X G 0 r i).bind (fun x => mc_ev X 180 1045 ls (.int x :: st) G)) ∧
  (∀ (v1 v2 v3 : Value) (x : UInt32) (st : List Value) (G : mc_H), mc_ev X 180 1045 [.float x, v1, v2, v3] st G = mc_ev X 180 1046 [.float x, v1, v2, v3] (.float x :: st) G) ∧
  (∀ (v0 v1 v2 : Value) (x : Int32) (st : List Value) (G : mc_H), mc_ev X 180 1046 [v0, v1, v2, .int x] st G = mc_ev X 180 1047 [v0, v1, v2, .int x] (.int x :: st) G) ∧
  (∀ (ls st : List Value) (G : mc_H), mc_ev X 180 1047 ls st G = mc_ev X 180 1048 ls (.int 3 :: st) G) ∧
  (∀ (x y : Int32) (ls st : List Value) (G : mc_H), mc_ev X 180 1048 ls (.int y :: .int x :: st) G = mc_ev X 180 1049 ls (.int (x + y) :: st) G) ∧
  (∀ (i : Int32) (r : Value) (ls st : List Value) (G : mc_H), mc_ev X 180 1049 ls (.int i :: r :: st) G = (mc_getA X G 0 r i).bind (fun x => mc_ev X 180 1050 ls (.int x :: st) G)) ∧
  (∀ (v1 v2 v3 : Value) (x : UInt32) (st : List Value) (G : mc_H), mc_ev X 180 1050 [.float x, v1, v2, v3] st G = mc_ev X 180 1051 [.float x, v1, v2, v3] (.float x :: st) G) ∧
  (∀ (v0 v1 v2 : Value) (x : Int32) (st : List Value) (G : mc_H), mc_ev X 180 1051 [v0, v1, v2, .int x] st G = mc_ev X 180 1052 [v0, v1, v2, .int x] (.int x :: st) G) ∧
  (∀ (ls st : List Value) (G : mc_H), mc_ev X 180 1052 ls st G = mc_ev X 180 1053 ls (.int 4 :: st) G) ∧
  (∀ (x y : Int32) (ls st : List Value) (G : mc_H), mc_ev X 180 1053 ls (.int y :: .int x :: st) G = mc_ev X 180 1054 ls (.int (x + y) :: st) G) ∧
  (∀ (i : Int32) (r : Value) (ls st : List Value) (G : mc_H), mc_ev X 180 1054 ls (.int i :: r :: st) G = (mc_getA X G 0 r i).bind (fun x => mc_ev X 180 1055 ls (.int x :: st) G)) ∧
  (∀ (v1 v2 v3 : Value) (x : UInt32) (st : List Value) (G : mc_H), mc_ev X 180 1055 [.float x, v1, v2, v3] st G = mc_ev X 180 1056 [.float x, v1, v2, v3] (.float x :: st) G) ∧
  (∀ (v0 v1 v2 : Value) (x : Int32) (st : List Value) (G : mc_H), mc_ev X 180 1056 [v0, v1, v2, .int x] st G = mc_ev X 180 1057 [v0, v1, v2, .int x] (.int x :: st) G) ∧
  (∀ (ls st : List Value) (G : mc_H), mc_ev X 180 1057 ls st G = mc_ev X 180 1058 ls (.int 5 :: st) G) ∧
  (∀ (x y : Int32) (ls st : List Value) (G : mc_H), mc_ev X 180 1058 ls (.int y :: .int x :: st) G = mc_ev X 180 1059 ls (.int (x + y) :: st) G) ∧
  (∀ (i : Int32) (r : Value) (ls st : List Value) (G : mc_H), mc_ev X 180 1059 ls (.int i :: r :: st) G = (mc_getA X G 0 r i).bind (fun x => mc_ev X 180 1060 ls (.int x :: st) G)) ∧
  (∀ (v1 v2 v3 : Value) (x : UInt32) (st : List Value) (G : mc_H), mc_ev X 180 1060 [.float x, v1, v2, v3] st G = mc_ev X 180 1061 [.float x, v1, v2, v3] (.float x :: st) G) ∧
  (∀ (v0 v1 v2 : Value) (x : Int32) (st : List Value) (G : mc_H), mc_ev X 180 1061 [v0, v1, v2, .int x] st G = mc_ev X 180 1062 [v0, v1, v2, .int x] (.int x :: st) G) ∧
  (∀ (ls st : List Value) (G : mc_H), mc_ev X 180 1062 ls st G = mc_ev X 180 1064 ls (.int 6 :: st) G) ∧
  (∀ (x y : Int32) (ls st : List Value) (G : mc_H), mc_ev X 180 1064 ls (.int y :: .int x :: st) G = mc_ev X 180 1065 ls (.int (x + y) :: st) G) ∧
  (∀ (i : Int32) (r : Value) (ls st : List Value) (G : mc_H), mc_ev X 180 1065 ls (.int i :: r :: st) G = (mc_getA X G 0 r i).bind (fun x => mc_ev X 180 1066 ls (.int x :: st) G)) ∧
  (∀ (v1 v2 v3 : Value) (x : UInt32) (st : List Value) (G : mc_H), mc_ev X 180 1066 [.float x, v1, v2, v3] st G = mc_ev X 180 1067 [.float x, v1, v2, v3] (.float x :: st) G) ∧
  (∀ (v0 v1 v2 : Value) (x : Int32) (st : List Value) (G : mc_H), mc_ev X 180 1067 [v0, v1, v2, .int x] st G = mc_ev X 180 1068 [v0, v1, v2, .int x] (.int x :: st) G) ∧
  (∀ (ls st : List Value) (G : mc_H), mc_ev X 180 1068 ls st G = mc_ev X 180 1070 ls (.int 7 :: st) G) ∧
  (∀ (x y : Int32) (ls st : List Value) (G : mc_H), mc_ev X 180 1070 ls (.int y :: .int x :: st) G = mc_ev X 180 1071 ls (.int (x + y) :: st) G) ∧
  (∀ (i : Int32) (r : Value) (ls st : List Value) (G : mc_H), mc_ev X 180 1071 ls (.int i :: r :: st) G = (mc_getA X G 0 r i).bind (fun x => mc_ev X 180 1072 ls (.int x :: st) G)) ∧
  (∀ (a0 : Int32) (a1 : Int32) (a2 : Int32) (a3 : Int32) (a4 : Int32) (a5 : Int32) (a6 : Int32) (r : Nat) (ls st : List Value) (G : mc_H), st.length ≤ 4 → mc_cls G r = some 7 → mc_ev X 180 1072 ls (.int a6 :: .int a5 :: .int a4 :: .int a3 :: .int a2 :: .int a1 :: .int a0 :: .ref r :: st) G = (mc_ev X 91 0 [.ref r, .int a0, .int a1, .int a2, .int a3, .int a4, .int a5, .int a6, .null, .null, .null] [] G).bind (fun q => mc_ev X 180 1075 ls (q.1.toList ++ st) q.2)) ∧
  (∀ (v0 v1 v3 : Value) (x : Nat) (st : List Value) (G : mc_H), mc_ev X 180 1075 [v0, v1, .ref x, v3] st G = mc_ev X 180 1076 [v0, v1, .ref x, v3] (.ref x :: st) G) ∧
  (∀ (v1 v2 v3 : Value) (x : UInt32) (st : List Value) (G : mc_H), mc_ev X 180 1076 [.float x, v1, v2, v3] st G = mc_ev X 180 1077 [.float x, v1, v2, v3] (.float x :: st) G) ∧
  (∀ (v0 v1 v2 : Value) (x : Int32) (st : List Value) (G : mc_H), mc_ev X 180 1077 [v0, v1, v2, .int x] st G = mc_ev X 180 1078 [v0, v1, v2, .int x] (.int x :: st) G) ∧
  (∀ (ls st : List Value) (G : mc_H), mc_ev X 180 1078 ls st G = mc_ev X 180 1079 ls (.int 1 :: st) G) ∧
  (∀ (x y : Int32) (ls st : List Value) (G : mc_H), mc_ev X 180 1079 ls (.int y :: .int x :: st) G = mc_ev X 180 1080 ls (.int (x + y) :: st) G) ∧
  (∀ (i : Int32) (r : Value) (ls st : List Value) (G : mc_H), mc_ev X 180 1080 ls (.int i :: r :: st) G = (mc_getA X G 0 r i).bind (fun x => mc_ev X 180 1081 ls (.int x :: st) G)) ∧
  (∀ (v1 v2 v3 : Value) (x : UInt32) (st : List Value) (G : mc_H), mc_ev X 180 1081 [.float x, v1, v2, v3] st G = mc_ev X 180 1082 [.float x, v1, v2, v3] (.float x :: st) G) ∧
  (∀ (v0 v1 v2 : Value) (x : Int32) (st : List Value) (G : mc_H), mc_ev X 180 1082 [v0, v1, v2, .int x] st G = mc_ev X 180 1083 [v0, v1, v2, .int x] (.int x :: st) G) ∧
  (∀ (ls st : List Value) (G : mc_H), mc_ev X 180 1083 ls st G = mc_ev X 180 1084 ls (.int 2 :: st) G) ∧
  (∀ (x y : Int32) (ls st : List Value) (G : mc_H), mc_ev X 180 1084 ls (.int y :: .int x :: st) G = mc_ev X 180 1085 ls (.int (x + y) :: st) G) ∧
  (∀ (i : Int32) (r : Value) (ls st : List Value) (G : mc_H), mc_ev X 180 1085 ls (.int i :: r :: st) G = (mc_getA X G 0 r i).bind (fun x => mc_ev X 180 1086 ls (.int x :: st) G)) ∧
  (∀ (v1 v2 v3 : Value) (x : UInt32) (st : List Value) (G : mc_H), mc_ev X 180 1086 [.float x, v1, v2, v3] st G = mc_ev X 180 1087 [.float x, v1, v2, v3] (.float x :: st) G) ∧
  (∀ (v0 v1 v2 : Value) (x : Int32) (st : List Value) (G : mc_H), mc_ev X 180 1087 [v0, v1, v2, .int x] st G = mc_ev X 180 1088 [v0, v1, v2, .int x] (.int x :: st) G) ∧
  (∀ (ls st : List Value) (G : mc_H), mc_ev X 180 1088 ls st G = mc_ev X 180 1089 ls (.int 3 :: st) G) ∧
  (∀ (x y : Int32) (ls st : List Value) (G : mc_H), mc_ev X 180 1089 ls (.int y :: .int x :: st) G = mc_ev X 180 1090 ls (.int (x + y) :: st) G) ∧
  (∀ (i : Int32) (r : Value) (ls st : List Value) (G : mc_H), mc_ev X 180 1090 ls (.int i :: r :: st) G = (mc_getA X G 0 r i).bind (fun x => mc_ev X 180 1091 ls (.int x :: st) G)) ∧
  (∀ (v1 v2 v3 : Value) (x : UInt32) (st : List Value) (G : mc_H), mc_ev X 180 1091 [.float x, v1, v2, v3] st G = mc_ev X 180 1092 [.float x, v1, v2, v3] (.float x :: st) G) ∧
  (∀ (v0 v1 v2 : Value) (x : Int32) (st : List Value) (G : mc_H), mc_ev X 180 1092 [v0, v1, v2, .int x] st G = mc_ev X 180 1093 [v0, v1, v2, .int x] (.int x :: st) G) ∧
  (∀ (ls st : List Value) (G : mc_H), mc_ev X 180 1093 ls st G = mc_ev X 180 1094 ls (.int 4 :: st) G) ∧
  (∀ (x y : Int32) (ls st : List Value) (G : mc_H), mc_ev X 180 1094 ls (.int y :: .int x :: st) G = mc_ev X 180 1095 ls (.int (x + y) :: st) G) ∧
  (∀ (i : Int32) (r : Value) (ls st : List Value) (G : mc_H), mc_ev X 180 1095 ls (.int i :: r :: st) G = (mc_getA X G 0 r i).bind (fun x => mc_ev X 180 1096 ls (.int x :: st) G)) ∧
  (∀ (v1 v2 v3 : Value) (x : UInt32) (st : List Value) (G : mc_H), mc_ev X 180 1096 [.float x, v1, v2, v3] st G = mc_ev X 180 1097 [.float x, v1, v2, v3] (.float x :: st) G) ∧
  (∀ (v0 v1 v2 : Value) (x : Int32) (st : List Value) (G : mc_H), mc_ev X 180 1097 [v0, v1, v2, .int x] st G = mc_ev X 180 1098 [v0, v1, v2, .int x] (.int x :: st) G) ∧
  (∀ (ls st : List Value) (G : mc_H), mc_ev X 180 1098 ls st G = mc_ev X 180 1099 ls (.int 5 :: st) G) ∧
  (∀ (x y : Int32) (ls st : List Value) (G : mc_H), mc_ev X 180 1099 ls (.int y :: .int x :: st) G = mc_ev X 180 1100 ls (.int (x + y) :: st) G) ∧
  (∀ (i : Int32) (r : Value) (ls st : List Value) (G : mc_H), mc_ev X 180 1100 ls (.int i :: r :: st) G = (mc_getA X G 0 r i).bind (fun x => mc_ev X 180 1101 ls (.int x :: st) G)) ∧
  (∀ (v1 v2 v3 : Value) (x : UInt32) (st : List Value) (G : mc_H), mc_ev X 180 1101 [.float x, v1, v2, v3] st G = mc_ev X 180 1102 [.float x, v1, v2, v3] (.float x :: st) G) ∧
  (∀ (v0 v1 v2 : Value) (x : Int32) (st : List Value) (G : mc_H), mc_ev X 180 1102 [v0, v1, v2, .int x] st G = mc_ev X 180 1103 [v0, v1, v2, .int x] (.int x :: st) G) ∧
  (∀ (ls st : List Value) (G : mc_H), mc_ev X 180 1103 ls st G = mc_ev X 180 1105 ls (.int 6 :: st) G) := ⟨fun v1 v2 v3 x st G => ev_aload_nF rfl rfl,
  fun v0 v1 v2 x st G => ev_iload_n rfl rfl,
  fun ls st G => ev_iconst rfl rfl,
  fun x y ls st G => ev_iadd rfl,
  fun i r ls st G => ev_iaload rfl,
  fun v1 v2 v3 x st G => ev_aload_nF rfl rfl,
  fun v0 v1 v2 x st G => ev_iload_n rfl rfl,
  fun ls st G => ev_iconst rfl rfl,
  fun x y ls st G => ev_iadd rfl,
  fun i r ls st G => ev_iaload rfl,
  fun v1 v2 v3 x st G => ev_aload_nF rfl rfl,
  fun v0 v1 v2 x st G => ev_iload_n rfl rfl,
  fun ls st G => ev_iconst rfl rfl,
  fun x y ls st G => ev_iadd rfl,
  fun i r ls st G => ev_iaload rfl,
  fun v1 v2 v3 x st G => ev_aload_nF rfl rfl,
  fun v0 v1 v2 x st G => ev_iload_n rfl rfl,
  fun ls st G => ev_iconst rfl rfl,
  fun x y ls st G => ev_iadd rfl,
  fun i r ls st G => ev_iaload rfl,
  fun v1 v2 v3 x st G => ev_aload_nF rfl rfl,
  fun v0 v1 v2 x st G => ev_iload_n rfl rfl,
  fun ls st G => ev_bipush rfl rfl,
  fun x y ls st G => ev_iadd rfl,
  fun i r ls st G => ev_iaload rfl,
  fun v1 v2 v3 x st G => ev_aload_nF rfl rfl,
  fun v0 v1 v2 x st G => ev_iload_n rfl rfl,
  fun ls st G => ev_bipush rfl rfl,
  fun x y ls st G => ev_iadd rfl,
  fun i r ls st G => ev_iaload rfl,
  fun a0 a1 a2 a3 a4 a5 a6 r ls st G hr hG => ev_virt (As := [.int a0, .int a1, .int a2, .int a3, .int a4, .int a5, .int a6]) rfl rfl rfl rfl rfl rfl hr hG,
  fun v0 v1 v3 x st G => ev_aload_n rfl rfl,
  fun v1 v2 v3 x st G => ev_aload_nF rfl rfl,
  fun v0 v1 v2 x st G => ev_iload_n rfl rfl,
  fun ls st G => ev_iconst rfl rfl,
  fun x y ls st G => ev_iadd rfl,
  fun i r ls st G => ev_iaload rfl,
  fun v1 v2 v3 x st G => ev_aload_nF rfl rfl,
  fun v0 v1 v2 x st G => ev_iload_n rfl rfl,
  fun ls st G => ev_iconst rfl rfl,
  fun x y ls st G => ev_iadd rfl,
  fun i r ls st G => ev_iaload rfl,
  fun v1 v2 v3 x st G => ev_aload_nF rfl rfl,
  fun v0 v1 v2 x st G => ev_iload_n rfl rfl,
  fun ls st G => ev_iconst rfl rfl,
  fun x y ls st G => ev_iadd rfl,
  fun i r ls st G => ev_iaload rfl,
  fun v1 v2 v3 x st G => ev_aload_nF rfl rfl,
  fun v0 v1 v2 x st G => ev_iload_n rfl rfl,
  fun ls st G => ev_iconst rfl rfl,
  fun x y ls st G => ev_iadd rfl,
  fun i r ls st G => ev_iaload rfl,
  fun v1 v2 v3 x st G => ev_aload_nF rfl rfl,
  fun v0 v1 v2 x st G => ev_iload_n rfl rfl,
  fun ls st G => ev_iconst rfl rfl,
  fun x y ls st G => ev_iadd rfl,
  fun i r ls st G => ev_iaload rfl,
  fun v1 v2 v3 x st G => ev_aload_nF rfl rfl,
  fun v0 v1 v2 x st G => ev_iload_n rfl rfl,
  fun ls st G => ev_bipush rfl rfl⟩
set_option maxRecDepth 100000 in
theorem e_180_13 {X : mc_X} : (∀ (x y : Int32) (ls st : List Value) (G : mc_H), mc_ev X 180 1105 ls (.int y :: .int x :: st) G = mc_ev X 180 1106 ls (.int (x + y) :: st) G) ∧
  (∀ (i : Int32) (r : Value) (ls st : List Value) (G : mc_H), mc_ev X 180 1106 ls (.int i :: r :: st) G = (mc_getA X G 0 r i).bind (fun x => mc_ev X 180 1107 ls (.int x :: st) G)) ∧
  (∀ (v1 v2 v3 : Value) (x : UInt32) (st : List Value) (G : mc_H), mc_ev X 180 1107 [.float x, v1, v2, v3] st G = mc_ev X 180 1108 [.float x, v1, v2, v3] (.float x :: st) G) ∧
  (∀ (v0 v1 v2 : Value) (x : Int32) (st : List Value) (G : mc_H), mc_ev X 180 1108 [v0, v1, v2, .int x] st G = mc_ev X 180 1109 [v0, v1, v2, .int x] (.int x :: st) G) ∧
  (∀ (ls st : List Value) (G : mc_H), mc_ev X 180 1109 ls st G = mc_ev X 180 1111 ls (.int 7 :: st) G) ∧
  (∀ (x y : Int32) (ls st : List Value) (G : mc_H), mc_ev X 180 1111 ls (.int y :: .int x :: st) G = mc_ev X 180 1112 ls (.int (x + y) :: st) G) ∧
  (∀ (i : Int32) (r : Value) (ls st : List Value) (G : mc_H), mc_ev X 180 1112 ls (.int i :: r :: st) G = (mc_getA X G 0 r i).bind (fun x => mc_ev X 180 1113 ls (.int x :: st) G)) ∧
  (∀ (a0 : Int32) (a1 : Int32) (a2 : Int32) (a3 : Int32) (a4 : Int32) (a5 : Int32) (a6 : Int32) (r : Nat) (ls st : List Value) (G : mc_H), st.length ≤ 4 → mc_cls G r = some 8 → mc_ev X 180 1113 ls (.int a6 :: .int a5 :: .int a4 :: .int a3 :: .int a2 :: .int a1 :: .int a0 :: .ref r :: st) G = (mc_ev X 170 0 [.ref r, .int a0, .int a1, .int a2, .int a3, .int a4, .int a5, .int a6, .null, .null, .null] [] G).bind (fun q => mc_ev X 180 1116 ls (q.1.toList ++ st) q.2)) ∧
  (∀ (x y : Int32) (ls st : List Value) (G : mc_H), mc_ev X 180 1116 ls (.int y :: .int x :: st) G = if x = y then mc_ev X 180 1224 ls st G else mc_ev X 180 1119 ls st G) ∧
  (∀ (ls st : List Value) (G : mc_H), mc_ev X 180 1119 ls st G = mc_ev X 180 1120 ls (.int 0 :: st) G) ∧
  (∀ (v : Int32) (ls : List Value) (G : mc_H), (v = 0 ∨ v = 1) → mc_ev X 180 1120 ls [.int v] G = some (some (.int v), G)) ∧
  (∀ (v0 v2 v3 : Value) (x : Nat) (st : List Value) (G : mc_H), mc_ev X 180 1121 [v0, .ref x, v2, v3] st G = mc_ev X 180 1122 [v0, .ref x, v2, v3] (.ref x :: st) G) ∧
  (∀ (v1 v2 v3 : Value) (x : UInt32) (st : List Value) (G : mc_H), mc_ev X 180 1122 [.float x, v1, v2, v3] st G = mc_ev X 180 1123 [.float x, v1, v2, v3] (.float x :: st) G) ∧
  (∀ (v0 v1 v2 : Value) (x : Int32) (st : List Value) (G : mc_H), mc_ev X 180 1123 [v0, v1, v2, .int x] st G = mc_ev X 180 1124 [v0, v1, v2, .int x] (.int x :: st) G) ∧
  (∀ (ls st : List Value) (G : mc_H), mc_ev X 180 1124 ls st G = mc_ev X 180 1125 ls (.int 1 :: st) G) ∧
  (∀ (x y : Int32) (ls st : List Value) (G : mc_H), mc_ev X 180 1125 ls (.int y :: .int x :: st) G = mc_ev X 180 1126 ls (.int (x + y) :: st) G) ∧
  (∀ (i : Int32) (r : Value) (ls st : List Value) (G : mc_H), mc_ev X 180 1126 ls (.int i :: r :: st) G = (mc_getA X G 0 r i).bind (fun x => mc_ev X 180 1127 ls (.int x :: st) G)) ∧
  (∀ (v1 v2 v3 : Value) (x : UInt32) (st : List Value) (G : mc_H), mc_ev X 180 1127 [.float x, v1, v2, v3] st G = mc_ev X 180 1128 [.float x, v1, v2, v3] (.float x :: st) G) ∧
  (∀ (v0 v1 v2 : Value) (x : Int32) (st : List Value) (G : mc_H), mc_ev X 180 1128 [v0, v1, v2, .int x] st G = mc_ev X 180 1129 [v0, v1, v2, .int x] (.int x :: st) G) ∧
  (∀ (ls st : List Value) (G : mc_H), mc_ev X 180 1129 ls st G = mc_ev X 180 1130 ls (.int 2 :: st) G) ∧
  (∀ (x y : Int32) (ls st : List Value) (G : mc_H), mc_ev X 180 1130 ls (.int y :: .int x :: st) G = mc_ev X 180 1131 ls (.int (x + y) :: st) G) ∧
  (∀ (i : Int32) (r : Value) (ls st : List Value) (G : mc_H), mc_ev X 180 1131 ls (.int i :: r :: st) G = (mc_getA X G 0 r i).bind (fun x => mc_ev X 180 1132 ls (.int x :: st) G)) ∧
  (∀ (v1 v2 v3 : Value) (x : UInt32) (st : List Value) (G : mc_H), mc_ev X 180 1132 [.float x, v1, v2, v3] st G = mc_ev X 180 1133 [.float x, v1, v2, v3] (.float x :: st) G) ∧
  (∀ (v0 v1 v2 : Value) (x : Int32) (st : List Value) (G : mc_H), mc_ev X 180 1133 [v0, v1, v2, .int x] st G = mc_ev X 180 1134 [v0, v1, v2, .int x] (.int x :: st) G) ∧
  (∀ (ls st : List Value) (G : mc_H), mc_ev X 180 1134 ls st G = mc_ev X 180 1135 ls (.int 3 :: st) G) ∧
  (∀ (x y : Int32) (ls st : List Value) (G : mc_H), mc_ev X 180 1135 ls (.int y :: .int x :: st) G = mc_ev X 180 1136 ls (.int (x + y) :: st) G) ∧
  (∀ (i : Int32) (r : Value) (ls st : List Value) (G : mc_H), mc_ev X 180 1136 ls (.int i :: r :: st) G = (mc_getA X G 0 r i).bind (fun x => mc_ev X 180 1137 ls (.int x :: st) G)) ∧
  (∀ (v1 v2 v3 : Value) (x : UInt32) (st : List Value) (G : mc_H), mc_ev X 180 1137 [.float x, v1, v2, v3] st G = mc_ev X 180 1138 [.float x, v1, v2, v3] (.float x :: st) G) ∧
  (∀ (v0 v1 v2 : Value) (x : Int32) (st : List Value) (G : mc_H), mc_ev X 180 1138 [v0, v1, v2, .int x] st G = mc_ev X 180 1139 [v0, v1, v2, .int x] (.int x :: st) G) ∧
  (∀ (ls st : List Value) (G : mc_H), mc_ev X 180 1139 ls st G = mc_ev X 180 1140 ls (.int 4 :: st) G) ∧
  (∀ (x y : Int32) (ls st : List Value) (G : mc_H), mc_ev X 180 1140 ls (.int y :: .int x :: st) G = mc_ev X 180 1141 ls (.int (x + y) :: st) G) ∧
  (∀ (i : Int32) (r : Value) (ls st : List Value) (G : mc_H), mc_ev X 180 1141 ls (.int i :: r :: st) G = (mc_getA X G 0 r i).bind (fun x => mc_ev X 180 1142 ls (.int x :: st) G)) ∧
  (∀ (a0 : Int32) (a1 : Int32) (a2 : Int32) (a3 : Int32) (r : Nat) (ls st : List Value) (G : mc_H), st.length ≤ 4 → mc_cls G r = some 7 → mc_ev X 180 1142 ls (.int a3 :: .int a2 :: .int a1 :: .int a0 :: .ref r :: st) G = (mc_ev X 92 0 [.ref r, .int a0, .int a1, .int a2, .int a3, .null, .null] [] G).bind (fun q => mc_ev X 180 1145 ls (q.1.toList ++ st) q.2)) ∧
  (∀ (v0 v1 v3 : Value) (x : Nat) (st : List Value) (G : mc_H), mc_ev X 180 1145 [v0, v1, .ref x, v3] st G = mc_ev X 180 1146 [v0, v1, .ref x, v3] (.ref x :: st) G) ∧
  (∀ (v1 v2 v3 : Value) (x : UInt32) (st : List Value) (G : mc_H), mc_ev X 180 1146 [.float x, v1, v2, v3] st G = mc_ev X 180 1147 [.float x, v1, v2, v3] (.float x :: st) G) ∧
  (∀ (v0 v1 v2 : Value) (x : Int32) (st : List Value) (G : mc_H), mc_ev X 180 1147 [v0, v1, v2, .int x] st G = mc_ev X 180 1148 [v0, v1, v2, .int x] (.int x :: st) G) ∧
  (∀ (ls st : List Value) (G : mc_H), mc_ev X 180 1148 ls st G = mc_ev X 180 1149 ls (.int 1 :: st) G) ∧
  (∀ (x y : Int32) (ls st : List Value) (G : mc_H), mc_ev X 180 1149 ls (.int y :: .int x :: st) G = mc_ev X 180 1150 ls (.int (x + y) :: st) G) ∧
  (∀ (i : Int32) (r : Value) (ls st : List Value) (G : mc_H), mc_ev X 180 1150 ls (.int i :: r :: st) G = (mc_getA X G 0 r i).bind (fun x => mc_ev X 180 1151 ls (.int x :: st) G)) ∧
  (∀ (v1 v2 v3 : Value) (x : UInt32) (st : List Value) (G : mc_H), mc_ev X 180 1151 [.float x, v1, v2, v3] st G = mc_ev X 180 1152 [.float x, v1, v2, v3] (.float x :: st) G) ∧
  (∀ (v0 v1 v2 : Value) (x : Int32) (st : List Value) (G : mc_H), mc_ev X 180 1152 [v0, v1, v2, .int x] st G = mc_ev X 180 1153 [v0, v1, v2, .int x] (.int x :: st) G) ∧
  (∀ (ls st : List Value) (G : mc_H), mc_ev X 180 1153 ls st G = mc_ev X 180 1154 ls (.int 2 :: st) G) ∧
  (∀ (x y : Int32) (ls st : List Value) (G : mc_H), mc_ev X 180 1154 ls (.int y :: .int x :: st) G = mc_ev X 180 1155 ls (.int (x + y) :: st) G) ∧
  (∀ (i : Int32) (r : Value) (ls st : List Value) (G : mc_H), mc_ev X 180 1155 ls (.int i :: r :: st) G = (mc_getA X G 0 r i).bind (fun x => mc_ev X 180 1156 ls (.int x :: st) G)) ∧
  (∀ (v1 v2 v3 : Value) (x : UInt32) (st : List Value) (G : mc_H), mc_ev X 180 1156 [.float x, v1, v2, v3] st G = mc_ev X 180 1157 [.float x, v1, v2, v3] (.float x :: st) G) ∧
  (∀ (v0 v1 v2 : Value) (x : Int32) (st : List Value) (G : mc_H), mc_ev X 180 1157 [v0, v1, v2, .int x] st G = mc_ev X 180 1158 [v0, v1, v2, .int x] (.int x :: st) G) ∧
  (∀ (ls st : List Value) (G : mc_H), mc_ev X 180 1158 ls st G = mc_ev X 180 1159 ls (.int 3 :: st) G) ∧
  (∀ (x y : Int32) (ls st : List Value) (G : mc_H), mc_ev X 180 1159 ls (.int y :: .int x :: st) G = mc_ev X 180 1160 ls (.int (x + y) :: st) G) ∧
  (∀ (i : Int32) (r : Value) (ls st : List Value) (G : mc_H), mc_ev X 180 1160 ls (.int i :: r :: st) G = (mc_getA X G 0 r i).bind (fun x => mc_ev X 180 1161 ls (.int x :: st) G)) ∧
  (∀ (v1 v2 v3 : Value) (x : UInt32) (st : List Value) (G : mc_H), mc_ev X 180 1161 [.float x, v1, v2, v3] st G = mc_ev X 180 1162 [.float x, v1, v2, v3] (.float x :: st) G) ∧
  (∀ (v0 v1 v2 : Value) (x : Int32) (st : List Value) (G : mc_H), mc_ev X 180 1162 [v0, v1, v2, .int x] st G = mc_ev X 180 1163 [v0, v1, v2, .int x] (.int x :: st) G) ∧
  (∀ (ls st : List Value) (G : mc_H), mc_ev X 180 1163 ls st G = mc_ev X 180 1164 ls (.int 4 :: st) G) ∧
  (∀ (x y : Int32) (ls st : List Value) (G : mc_H), mc_ev X 180 1164 ls (.int y :: .int x :: st) G = mc_ev X 180 1165 ls (.int (x + y) :: st) G) ∧
  (∀ (i : Int32) (r : Value) (ls st : List Value) (G : mc_H), mc_ev X 180 1165 ls (.int i :: r :: st) G = (mc_getA X G 0 r i).bind (fun x => mc_ev X 180 1166 ls (.int x :: st) G)) ∧
  (∀ (a0 : Int32) (a1 : Int32) (a2 : Int32) (a3 : Int32) (r : Nat) (ls st : List Value) (G : mc_H), st.length ≤ 4 → mc_cls G r = some 8 → mc_ev X 180 1166 ls (.int a3 :: .int a2 :: .int a1 :: .int a0 :: .ref r :: st) G = (mc_ev X 171 0 [.ref r, .int a0, .int a1, .int a2, .int a3, .null] [] G).bind (fun q => mc_ev X 180 1169 ls (q.1.toList ++ st) q.2)) ∧
  (∀ (x y : Int32) (ls st : List Value) (G : mc_H), mc_ev X 180 1169 ls (.int y :: .int x :: st) G = if x = y then mc_ev X 180 1224 ls st G else mc_ev X 180 1172 ls st G) ∧
  (∀ (ls st : List Value) (G : mc_H), mc_ev X 180 1172 ls st G = mc_ev X 180 1173 ls (.int 0 :: st) G) ∧
  (∀ (v : Int32) (ls : List Value) (G : mc_H), (v = 0 ∨ v = 1) → mc_ev X 180 1173 ls [.int v] G = some (some (.int v), G)) ∧
  (∀ (v0 v2 v3 : Value) (x : Nat) (st : List Value) (G : mc_H), mc_ev X 180 1174 [v0, .ref x, v2, v3] st G = mc_ev X 180 1175 [v0, .ref x, v2, v3] (.ref x :: st) G) ∧
  (∀ (v1 v2 v3 : Value) (x : UInt32) (st : List Value) (G : mc_H), mc_ev X 180 1175 [.float x, v1, v2, v3] st G = mc_ev X 180 1176 [.float x, v1, v2, v3] (.float x :: st) G) := ⟨fun x y ls st G => ev_iadd rfl,
  fun i r ls st G => ev_iaload rfl,
  fun v1 v2 v3 x st G => ev_aload_nF rfl rfl,
  fun v0 v1 v2 x st G => ev_iload_n rfl rfl,
  fun ls st G => ev_bipush rfl rfl,
  fun x y ls st G => ev_iadd rfl,
  fun i r ls st G => ev_iaload rfl,
  fun a0 a1 a2 a3 a4 a5 a6 r ls st G hr hG => ev_virt (As := [.int a0, .int a1, .int a2, .int a3, .int a4, .int a5, .int a6]) rfl rfl rfl rfl rfl rfl hr hG,
  fun x y ls st G => ev_br rfl rfl,
  fun ls st G => ev_iconst rfl rfl,
  fun v ls G hv => ev_zreturn rfl rfl hv,
  fun v0 v2 v3 x st G => ev_aload_n rfl rfl,
  fun v1 v2 v3 x st G => ev_aload_nF rfl rfl,
  fun v0 v1 v2 x st G => ev_iload_n rfl rfl,
  fun ls st G => ev_iconst rfl rfl,
  fun x y ls st G => ev_iadd rfl,
  fun i r ls st G => ev_iaload rfl,
  fun v1 v2 v3 x st G => ev_aload_nF rfl rfl,
  fun v0 v1 v2 x st G => ev_iload_n rfl rfl,
  fun ls st G => ev_iconst rfl rfl,
  fun x y ls st G => ev_iadd rfl,
  fun i r ls st G => ev_iaload rfl,
  fun v1 v2 v3 x st G => ev_aload_nF rfl rfl,
  fun v0 v1 v2 x st G => ev_iload_n rfl rfl,
  fun ls st G => ev_iconst rfl rfl,
  fun x y ls st G => ev_iadd rfl,
  fun i r ls st G => ev_iaload rfl,
  fun v1 v2 v3 x st G => ev_aload_nF rfl rfl,
  fun v0 v1 v2 x st G => ev_iload_n rfl rfl,
  fun ls st G => ev_iconst rfl rfl,
  fun x y ls st G => ev_iadd rfl,
  fun i r ls st G => ev_iaload rfl,
  fun a0 a1 a2 a3 r ls st G hr hG => ev_virt (As := [.int a0, .int a1, .int a2, .int a3]) rfl rfl rfl rfl rfl rfl hr hG,
  fun v0 v1 v3 x st G => ev_aload_n rfl rfl,
  fun v1 v2 v3 x st G => ev_aload_nF rfl rfl,
  fun v0 v1 v2 x st G => ev_iload_n rfl rfl,
  fun ls st G => ev_iconst rfl rfl,
  fun x y ls st G => ev_iadd rfl,
  fun i r ls st G => ev_iaload rfl,
  fun v1 v2 v3 x st G => ev_aload_nF rfl rfl,
  fun v0 v1 v2 x st G => ev_iload_n rfl rfl,
  fun ls st G => ev_iconst rfl rfl,
  fun x y ls st G => ev_iadd rfl,
  fun i r ls st G => ev_iaload rfl,
  fun v1 v2 v3 x st G => ev_aload_nF rfl rfl,
  fun v0 v1 v2 x st G => ev_iload_n rfl rfl,
  fun ls st G => ev_iconst rfl rfl,
  fun x y ls st G => ev_iadd rfl,
  fun i r ls st G => ev_iaload rfl,
  fun v1 v2 v3 x st G => ev_aload_nF rfl rfl,
  fun v0 v1 v2 x st G => ev_iload_n rfl rfl,
  fun ls st G => ev_iconst rfl rfl,
  fun x y ls st G => ev_iadd rfl,
  fun i r ls st G => ev_iaload rfl,
  fun a0 a1 a2 a3 r ls st G hr hG => ev_virt (As := [.int a0, .int a1, .int a2, .int a3]) rfl rfl rfl rfl rfl rfl hr hG,
  fun x y ls st G => ev_br rfl rfl,
  fun ls st G => ev_iconst rfl rfl,
  fun v ls G hv => ev_zreturn rfl rfl hv,
  fun v0 v2 v3 x st G => ev_aload_n rfl rfl,
  fun v1 v2 v3 x st G => ev_aload_nF rfl rfl⟩
set_option maxRecDepth 100000 in
theorem e_180_14 {X : mc_X} : (∀ (v0 v1 v2 : Value) (x : Int32) (st : List Value) (G : mc_H), mc_ev X 180 1176 [v0, v1, v2, .int x] st G = mc_ev X 180 1177 [v0, v1, v2, .int x] (.int x :: st) G) ∧
  (∀ (ls st : List Value) (G : mc_H), mc_ev X 180 1177 ls st G = mc_ev X 180 1178 ls (.int 1 :: st) G) ∧
  (∀ (x y : Int32) (ls st : List Value) (G : mc_H), mc_ev X 180 1178 ls (.int y :: .int x :: st) G = mc_ev X 180 1179 ls (.int (x + y) :: st) G) ∧
  (∀ (i : Int32) (r : Value) (ls st : List Value) (G : mc_H), mc_ev X 180 1179 ls (.int i :: r :: st) G = (mc_getA X G 0 r i).bind (fun x => mc_ev X 180 1180 ls (.int x :: st) G)) ∧
  (∀ (a0 : Int32) (r : Nat) (ls st : List Value) (G : mc_H), st.length ≤ 4 → mc_cls G r = some 7 → mc_ev X 180 1180 ls (.int a0 :: .ref r :: st) G = (mc_ev X 93 0 [.ref r, .int a0] [] G).bind (fun q => mc_ev X 180 1183 ls (q.1.toList ++ st) q.2)) ∧
  (∀ (v0 v1 v3 : Value) (x : Nat) (st : List Value) (G : mc_H), mc_ev X 180 1183 [v0, v1, .ref x, v3] st G = mc_ev X 180 1184 [v0, v1, .ref x, v3] (.ref x :: st) G) ∧
  (∀ (v1 v2 v3 : Value) (x : UInt32) (st : List Value) (G : mc_H), mc_ev X 180 1184 [.float x, v1, v2, v3] st G = mc_ev X 180 1185 [.float x, v1, v2, v3] (.float x :: st) G) ∧
  (∀ (v0 v1 v2 : Value) (x : Int32) (st : List Value) (G : mc_H), mc_ev X 180 1185 [v0, v1, v2, .int x] st G = mc_ev X 180 1186 [v0, v1, v2, .int x] (.int x :: st) G) ∧
  (∀ (ls st : List Value) (G : mc_H), mc_ev X 180 1186 ls st G = mc_ev X 180 1187 ls (.int 1 :: st) G) ∧
  (∀ (x y : Int32) (ls st : List Value) (G : mc_H), mc_ev X 180 1187 ls (.int y :: .int x :: st) G = mc_ev X 180 1188 ls (.int (x + y) :: st) G) ∧
  (∀ (i : Int32) (r : Value) (ls st : List Value) (G : mc_H), mc_ev X 180 1188 ls (.int i :: r :: st) G = (mc_getA X G 0 r i).bind (fun x => mc_ev X 180 1189 ls (.int x :: st) G)) ∧
  (∀ (a0 : Int32) (r : Nat) (ls st : List Value) (G : mc_H), st.length ≤ 4 → mc_cls G r = some 8 → mc_ev X 180 1189 ls (.int a0 :: .ref r :: st) G = (mc_ev X 172 0 [.ref r, .int a0, .null, .null, .null] [] G).bind (fun q => mc_ev X 180 1192 ls (q.1.toList ++ st) q.2)) ∧
  (∀ (x y : Int32) (ls st : List Value) (G : mc_H), mc_ev X 180 1192 ls (.int y :: .int x :: st) G = if x = y then mc_ev X 180 1224 ls st G else mc_ev X 180 1195 ls st G) ∧
  (∀ (ls st : List Value) (G : mc_H), mc_ev X 180 1195 ls st G = mc_ev X 180 1196 ls (.int 0 :: st) G) ∧
  (∀ (v : Int32) (ls : List Value) (G : mc_H), (v = 0 ∨ v = 1) → mc_ev X 180 1196 ls [.int v] G = some (some (.int v), G)) ∧
  (∀ (v0 v2 v3 : Value) (x : Nat) (st : List Value) (G : mc_H), mc_ev X 180 1197 [v0, .ref x, v2, v3] st G = mc_ev X 180 1198 [v0, .ref x, v2, v3] (.ref x :: st) G) ∧
  (∀ (r : Nat) (ls st : List Value) (G : mc_H), st.length ≤ 4 → mc_cls G r = some 7 → mc_ev X 180 1198 ls (.ref r :: st) G = (mc_ev X 94 0 [.ref r] [] G).bind (fun q => mc_ev X 180 1201 ls (q.1.toList ++ st) q.2)) ∧
  (∀ (v0 v1 v3 : Value) (x : Nat) (st : List Value) (G : mc_H), mc_ev X 180 1201 [v0, v1, .ref x, v3] st G = mc_ev X 180 1202 [v0, v1, .ref x, v3] (.ref x :: st) G) ∧
  (∀ (r : Nat) (ls st : List Value) (G : mc_H), st.length ≤ 4 → mc_cls G r = some 8 → mc_ev X 180 1202 ls (.ref r :: st) G = (mc_ev X 173 0 [.ref r] [] G).bind (fun q => mc_ev X 180 1205 ls (q.1.toList ++ st) q.2)) ∧
  (∀ (x y : Int64) (ls st : List Value) (G : mc_H), mc_ev X 180 1205 ls (.long y :: .long x :: st) G = mc_ev X 180 1206 ls (.int (lg_cmp x y) :: st) G) ∧
  (∀ (x : Int32) (ls st : List Value) (G : mc_H), mc_ev X 180 1206 ls (.int x :: st) G = if x = 0 then mc_ev X 180 1224 ls st G else mc_ev X 180 1209 ls st G) ∧
  (∀ (ls st : List Value) (G : mc_H), mc_ev X 180 1209 ls st G = mc_ev X 180 1210 ls (.int 0 :: st) G) ∧
  (∀ (v : Int32) (ls : List Value) (G : mc_H), (v = 0 ∨ v = 1) → mc_ev X 180 1210 ls [.int v] G = some (some (.int v), G)) ∧
  (∀ (v0 v2 v3 : Value) (x : Nat) (st : List Value) (G : mc_H), mc_ev X 180 1211 [v0, .ref x, v2, v3] st G = mc_ev X 180 1212 [v0, .ref x, v2, v3] (.ref x :: st) G) ∧
  (∀ (r : Nat) (ls st : List Value) (G : mc_H), st.length ≤ 4 → mc_cls G r = some 7 → mc_ev X 180 1212 ls (.ref r :: st) G = (mc_ev X 95 0 [.ref r] [] G).bind (fun q => mc_ev X 180 1215 ls (q.1.toList ++ st) q.2)) ∧
  (∀ (v0 v1 v3 : Value) (x : Nat) (st : List Value) (G : mc_H), mc_ev X 180 1215 [v0, v1, .ref x, v3] st G = mc_ev X 180 1216 [v0, v1, .ref x, v3] (.ref x :: st) G) ∧
  (∀ (r : Nat) (ls st : List Value) (G : mc_H), st.length ≤ 4 → mc_cls G r = some 8 → mc_ev X 180 1216 ls (.ref r :: st) G = (mc_ev X 174 0 [.ref r] [] G).bind (fun q => mc_ev X 180 1219 ls (q.1.toList ++ st) q.2)) ∧
  (∀ (x y : Int32) (ls st : List Value) (G : mc_H), mc_ev X 180 1219 ls (.int y :: .int x :: st) G = if x = y then mc_ev X 180 1224 ls st G else mc_ev X 180 1222 ls st G) ∧
  (∀ (ls st : List Value) (G : mc_H), mc_ev X 180 1222 ls st G = mc_ev X 180 1223 ls (.int 0 :: st) G) ∧
  (∀ (v : Int32) (ls : List Value) (G : mc_H), (v = 0 ∨ v = 1) → mc_ev X 180 1223 ls [.int v] G = some (some (.int v), G)) ∧
  (∀ (v0 v1 v2 : Value) (x : Int32) (st : List Value) (G : mc_H), mc_ev X 180 1224 [v0, v1, v2, .int x] st G = mc_ev X 180 1227 [v0, v1, v2, .int (x + 8)] st G) ∧
  (∀ (ls st : List Value) (G : mc_H), mc_ev X 180 1227 ls st G = mc_ev X 180 18 ls st G) ∧
  (∀ (ls st : List Value) (G : mc_H), mc_ev X 180 1230 ls st G = mc_ev X 180 1231 ls (.int 1 :: st) G) ∧
  (∀ (v : Int32) (ls : List Value) (G : mc_H), (v = 0 ∨ v = 1) → mc_ev X 180 1231 ls [.int v] G = some (some (.int v), G)) := ⟨fun v0 v1 v2 x st G => ev_iload_n rfl rfl,
  fun ls st G => ev_iconst rfl rfl,
  fun x y ls st G => ev_iadd rfl,
  fun i r ls st G => ev_iaload rfl,
  fun a0 r ls st G hr hG => ev_virt (As := [.int a0]) rfl rfl rfl rfl rfl rfl hr hG,
  fun v0 v1 v3 x st G => ev_aload_n rfl rfl,
  fun v1 v2 v3 x st G => ev_aload_nF rfl rfl,
  fun v0 v1 v2 x st G => ev_iload_n rfl rfl,
  fun ls st G => ev_iconst rfl rfl,
  fun x y ls st G => ev_iadd rfl,
  fun i r ls st G => ev_iaload rfl,
  fun a0 r ls st G hr hG => ev_virt (As := [.int a0]) rfl rfl rfl rfl rfl rfl hr hG,
  fun x y ls st G => ev_br rfl rfl,
  fun ls st G => ev_iconst rfl rfl,
  fun v ls G hv => ev_zreturn rfl rfl hv,
  fun v0 v2 v3 x st G => ev_aload_n rfl rfl,
  fun r ls st G hr hG => ev_virt (As := []) rfl rfl rfl rfl rfl rfl hr hG,
  fun v0 v1 v3 x st G => ev_aload_n rfl rfl,
  fun r ls st G hr hG => ev_virt (As := []) rfl rfl rfl rfl rfl rfl hr hG,
  fun x y ls st G => ev_lcmp rfl,
  fun x ls st G => ev_br rfl rfl,
  fun ls st G => ev_iconst rfl rfl,
  fun v ls G hv => ev_zreturn rfl rfl hv,
  fun v0 v2 v3 x st G => ev_aload_n rfl rfl,
  fun r ls st G hr hG => ev_virt (As := []) rfl rfl rfl rfl rfl rfl hr hG,
  fun v0 v1 v3 x st G => ev_aload_n rfl rfl,
  fun r ls st G hr hG => ev_virt (As := []) rfl rfl rfl rfl rfl rfl hr hG,
  fun x y ls st G => ev_br rfl rfl,
  fun ls st G => ev_iconst rfl rfl,
  fun v ls G hv => ev_zreturn rfl rfl hv,
  fun v0 v1 v2 x st G => ev_iinc (X := X) (k := 180) (pc := 1224) (ls := [v0, v1, v2, .int x]) (st := st) (G := G) (j := 3) (n := 8) (x := x) (v := 8) rfl rfl rfl,
  fun ls st G => ev_goto rfl rfl,
  fun ls st G => ev_iconst rfl rfl,
  fun v ls G hv => ev_zreturn rfl rfl hv⟩
