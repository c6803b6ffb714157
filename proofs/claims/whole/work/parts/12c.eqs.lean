theorem e_61 {X : mc_X} : (∀ (v0 v2 : Value) (x : Int32) (st : List Value) (G : mc_H), mc_ev X 61 0 [v0, .int x, v2] st G = mc_ev X 61 1 [v0, .int x, v2] (.int x :: st) G) ∧
  (∀ (ls st : List Value) (G : mc_H), mc_ev X 61 1 ls st G = mc_ev X 61 2 ls (.int 1 :: st) G) ∧
  (∀ (x y : Int32) (ls st : List Value) (G : mc_H), mc_ev X 61 2 ls (.int y :: .int x :: st) G = if x < y then mc_ev X 61 30 ls st G else mc_ev X 61 5 ls st G) ∧
  (∀ (v0 v2 : Value) (x : Int32) (st : List Value) (G : mc_H), mc_ev X 61 5 [v0, .int x, v2] st G = mc_ev X 61 6 [v0, .int x, v2] (.int x :: st) G) ∧
  (∀ (ls st : List Value) (G : mc_H), mc_ev X 61 6 ls st G = mc_ev X 61 8 ls (.int 6 :: st) G) ∧
  (∀ (x y : Int32) (ls st : List Value) (G : mc_H), mc_ev X 61 8 ls (.int y :: .int x :: st) G = if y < x then mc_ev X 61 30 ls st G else mc_ev X 61 11 ls st G) ∧
  (∀ (v0 v1 : Value) (x : Int32) (st : List Value) (G : mc_H), mc_ev X 61 11 [v0, v1, .int x] st G = mc_ev X 61 12 [v0, v1, .int x] (.int x :: st) G) ∧
  (∀ (ls st : List Value) (G : mc_H), mc_ev X 61 12 ls st G = mc_ev X 61 13 ls (.int 1 :: st) G) ∧
  (∀ (x y : Int32) (ls st : List Value) (G : mc_H), mc_ev X 61 13 ls (.int y :: .int x :: st) G = if x < y then mc_ev X 61 30 ls st G else mc_ev X 61 16 ls st G) ∧
  (∀ (v0 v1 : Value) (x : Int32) (st : List Value) (G : mc_H), mc_ev X 61 16 [v0, v1, .int x] st G = mc_ev X 61 17 [v0, v1, .int x] (.int x :: st) G) ∧
  (∀ (ls st : List Value) (G : mc_H), mc_ev X 61 17 ls st G = mc_ev X 61 19 ls (.int 6 :: st) G) ∧
  (∀ (x y : Int32) (ls st : List Value) (G : mc_H), mc_ev X 61 19 ls (.int y :: .int x :: st) G = if y < x then mc_ev X 61 30 ls st G else mc_ev X 61 22 ls st G) ∧
  (∀ (v0 v2 : Value) (x : Int32) (st : List Value) (G : mc_H), mc_ev X 61 22 [v0, .int x, v2] st G = mc_ev X 61 23 [v0, .int x, v2] (.int x :: st) G) ∧
  (∀ (v0 v1 : Value) (x : Int32) (st : List Value) (G : mc_H), mc_ev X 61 23 [v0, v1, .int x] st G = mc_ev X 61 24 [v0, v1, .int x] (.int x :: st) G) ∧
  (∀ (x y : Int32) (ls st : List Value) (G : mc_H), mc_ev X 61 24 ls (.int y :: .int x :: st) G = mc_ev X 61 25 ls (.int (x * y) :: st) G) ∧
  (∀ (ls st : List Value) (G : mc_H), mc_ev X 61 25 ls st G = mc_ev X 61 27 ls (.int 12 :: st) G) ∧
  (∀ (x y : Int32) (ls st : List Value) (G : mc_H), mc_ev X 61 27 ls (.int y :: .int x :: st) G = if y < x then mc_ev X 61 30 ls st G else mc_ev X 61 32 ls st G) ∧
  (∀ (ls st : List Value) (G : mc_H), mc_ev X 61 30 ls st G = mc_ev X 61 31 ls (.int (-1) :: st) G) ∧
  (∀ (v : Int32) (ls : List Value) (G : mc_H), mc_ev X 61 31 ls [.int v] G = some (some (.int v), G)) ∧
  (∀ (v1 v2 : Value) (x : Nat) (st : List Value) (G : mc_H), mc_ev X 61 32 [.ref x, v1, v2] st G = mc_ev X 61 33 [.ref x, v1, v2] (.ref x :: st) G) ∧
  (∀ (r : Nat) (ls st : List Value) (G : mc_H), mc_ev X 61 33 ls (.ref r :: st) G = (mc_getf G r 7 0).bind (fun v => mc_ev X 61 36 ls (v :: st) G)) ∧
  (∀ (r : Nat) (ls st : List Value) (G : mc_H), mc_ev X 61 36 ls (.ref r :: st) G = (mc_getf G r 4 0).bind (fun v => mc_ev X 61 39 ls (v :: st) G)) ∧
  (∀ (v0 v2 : Value) (x : Int32) (st : List Value) (G : mc_H), mc_ev X 61 39 [v0, .int x, v2] st G = mc_ev X 61 40 [v0, .int x, v2] (.int x :: st) G) ∧
  (∀ (v0 v1 : Value) (x : Int32) (st : List Value) (G : mc_H), mc_ev X 61 40 [v0, v1, .int x] st G = mc_ev X 61 41 [v0, v1, .int x] (.int x :: st) G) ∧
  (∀ (a0 : Int32) (a1 : Int32) (r : Nat) (ls st : List Value) (G : mc_H), st.length ≤ 4 → mc_cls G r = some 0 → mc_ev X 61 41 ls (.int a1 :: .int a0 :: .ref r :: st) G = (mc_ev X 1 0 [.ref r, .int a0, .int a1, .null, .null] [] G).bind (fun q => mc_ev X 61 44 ls (q.1.toList ++ st) q.2)) ∧
  (∀ (v1 v2 : Value) (x : Nat) (st : List Value) (G : mc_H), mc_ev X 61 44 [.ref x, v1, v2] st G = mc_ev X 61 45 [.ref x, v1, v2] (.ref x :: st) G) ∧
  (∀ (r : Nat) (ls st : List Value) (G : mc_H), mc_ev X 61 45 ls (.ref r :: st) G = (mc_getf G r 7 0).bind (fun v => mc_ev X 61 48 ls (v :: st) G)) ∧
  (∀ (r : Nat) (ls st : List Value) (G : mc_H), mc_ev X 61 48 ls (.ref r :: st) G = (mc_getf G r 4 1).bind (fun v => mc_ev X 61 51 ls (v :: st) G)) ∧
  (∀ (r : Nat) (ls st : List Value) (G : mc_H), st.length ≤ 4 → mc_cls G r = some 5 → mc_ev X 61 51 ls (.ref r :: st) G = (mc_ev X 46 0 [.ref r] [] G).bind (fun q => mc_ev X 61 54 ls (q.1.toList ++ st) q.2)) ∧
  (∀ (v1 v2 : Value) (x : Nat) (st : List Value) (G : mc_H), mc_ev X 61 54 [.ref x, v1, v2] st G = mc_ev X 61 55 [.ref x, v1, v2] (.ref x :: st) G) ∧
  (∀ (r : Nat) (ls st : List Value) (G : mc_H), mc_ev X 61 55 ls (.ref r :: st) G = (mc_getf G r 7 1).bind (fun v => mc_ev X 61 58 ls (v :: st) G)) ∧
  (∀ (r : Nat) (ls st : List Value) (G : mc_H), st.length ≤ 4 → mc_cls G r = some 1 → mc_ev X 61 58 ls (.ref r :: st) G = (mc_ev X 9 0 [.ref r] [] G).bind (fun q => mc_ev X 61 61 ls (q.1.toList ++ st) q.2)) ∧
  (∀ (v1 v2 : Value) (x : Nat) (st : List Value) (G : mc_H), mc_ev X 61 61 [.ref x, v1, v2] st G = mc_ev X 61 62 [.ref x, v1, v2] (.ref x :: st) G) ∧
  (∀ (r : Nat) (ls st : List Value) (G : mc_H), mc_ev X 61 62 ls (.ref r :: st) G = (mc_getf G r 7 2).bind (fun v => mc_ev X 61 65 ls (v :: st) G)) ∧
  (∀ (ls st : List Value) (G : mc_H), mc_ev X 61 65 ls st G = mc_ev X 61 66 ls (.int 1 :: st) G) ∧
  (∀ (v : Value) (r : Nat) (ls st : List Value) (G : mc_H), mc_ev X 61 66 ls (v :: .ref r :: st) G = (mc_setf G r 2 1 v).bind (fun G' => mc_ev X 61 69 ls st G')) ∧
  (∀ (v1 v2 : Value) (x : Nat) (st : List Value) (G : mc_H), mc_ev X 61 69 [.ref x, v1, v2] st G = mc_ev X 61 70 [.ref x, v1, v2] (.ref x :: st) G) ∧
  (∀ (r : Nat) (ls st : List Value) (G : mc_H), mc_ev X 61 70 ls (.ref r :: st) G = (mc_getf G r 7 0).bind (fun v => mc_ev X 61 73 ls (v :: st) G)) ∧
  (∀ (r : Nat) (ls st : List Value) (G : mc_H), mc_ev X 61 73 ls (.ref r :: st) G = (mc_getf G r 4 0).bind (fun v => mc_ev X 61 76 ls (v :: st) G)) ∧
  (∀ (r : Nat) (ls st : List Value) (G : mc_H), mc_ev X 61 76 ls (.ref r :: st) G = (mc_getf G r 0 3).bind (fun v => mc_ev X 61 79 ls (v :: st) G)) ∧
  (∀ (v : Int32) (ls : List Value) (G : mc_H), mc_ev X 61 79 ls [.int v] G = some (some (.int v), G)) := ⟨fun v0 v2 x st G => ev_iload_n rfl rfl,
  fun ls st G => ev_iconst rfl rfl,
  fun x y ls st G => ev_br rfl rfl,
  fun v0 v2 x st G => ev_iload_n rfl rfl,
  fun ls st G => ev_bipush rfl rfl,
  fun x y ls st G => ev_br rfl rfl,
  fun v0 v1 x st G => ev_iload_n rfl rfl,
  fun ls st G => ev_iconst rfl rfl,
  fun x y ls st G => ev_br rfl rfl,
  fun v0 v1 x st G => ev_iload_n rfl rfl,
  fun ls st G => ev_bipush rfl rfl,
  fun x y ls st G => ev_br rfl rfl,
  fun v0 v2 x st G => ev_iload_n rfl rfl,
  fun v0 v1 x st G => ev_iload_n rfl rfl,
  fun x y ls st G => ev_imul rfl,
  fun ls st G => ev_bipush rfl rfl,
  fun x y ls st G => ev_br rfl rfl,
  fun ls st G => ev_iconst rfl rfl,
  fun v ls G => ev_ireturn rfl rfl,
  fun v1 v2 x st G => ev_aload_n rfl rfl,
  fun r ls st G => ev_getfield rfl,
  fun r ls st G => ev_getfield rfl,
  fun v0 v2 x st G => ev_iload_n rfl rfl,
  fun v0 v1 x st G => ev_iload_n rfl rfl,
  fun a0 a1 r ls st G hr hG => ev_virt (As := [.int a0, .int a1]) rfl rfl rfl rfl rfl rfl hr hG,
  fun v1 v2 x st G => ev_aload_n rfl rfl,
  fun r ls st G => ev_getfield rfl,
  fun r ls st G => ev_getfield rfl,
  fun r ls st G hr hG => ev_virt (As := []) rfl rfl rfl rfl rfl rfl hr hG,
  fun v1 v2 x st G => ev_aload_n rfl rfl,
  fun r ls st G => ev_getfield rfl,
  fun r ls st G hr hG => ev_virt (As := []) rfl rfl rfl rfl rfl rfl hr hG,
  fun v1 v2 x st G => ev_aload_n rfl rfl,
  fun r ls st G => ev_getfield rfl,
  fun ls st G => ev_iconst rfl rfl,
  fun v r ls st G => ev_putfield rfl,
  fun v1 v2 x st G => ev_aload_n rfl rfl,
  fun r ls st G => ev_getfield rfl,
  fun r ls st G => ev_getfield rfl,
  fun r ls st G => ev_getfield rfl,
  fun v ls G => ev_ireturn rfl rfl⟩
theorem e_62 {X : mc_X} : (∀ (v1 v2 v3 : Value) (x : Nat) (st : List Value) (G : mc_H), mc_ev X 62 0 [.ref x, v1, v2, v3] st G = mc_ev X 62 1 [.ref x, v1, v2, v3] (.ref x :: st) G) ∧
  (∀ (v0 v2 v3 : Value) (x : Int32) (st : List Value) (G : mc_H), mc_ev X 62 1 [v0, .int x, v2, v3] st G = mc_ev X 62 2 [v0, .int x, v2, v3] (.int x :: st) G) ∧
  (∀ (a0 : Int32) (r : Nat) (ls st : List Value) (G : mc_H), st.length ≤ 4 → mc_cls G r = some 7 → mc_ev X 62 2 ls (.int a0 :: .ref r :: st) G = (mc_ev X 96 0 [.ref r, .int a0] [] G).bind (fun q => mc_ev X 62 5 ls (q.1.toList ++ st) q.2)) ∧
  (∀ (x : Int32) (ls st : List Value) (G : mc_H), mc_ev X 62 5 ls (.int x :: st) G = if x = 0 then mc_ev X 62 8 ls st G else mc_ev X 62 17 ls st G) ∧
  (∀ (v0 v1 v3 : Value) (x : Int32) (st : List Value) (G : mc_H), mc_ev X 62 8 [v0, v1, .int x, v3] st G = mc_ev X 62 9 [v0, v1, .int x, v3] (.int x :: st) G) ∧
  (∀ (x : Int32) (ls st : List Value) (G : mc_H), mc_ev X 62 9 ls (.int x :: st) G = if x < 0 then mc_ev X 62 17 ls st G else mc_ev X 62 12 ls st G) ∧
  (∀ (v0 v1 v3 : Value) (x : Int32) (st : List Value) (G : mc_H), mc_ev X 62 12 [v0, v1, .int x, v3] st G = mc_ev X 62 13 [v0, v1, .int x, v3] (.int x :: st) G) ∧
  (∀ (ls st : List Value) (G : mc_H), mc_ev X 62 13 ls st G = mc_ev X 62 14 ls (.int 5 :: st) G) ∧
  (∀ (x y : Int32) (ls st : List Value) (G : mc_H), mc_ev X 62 14 ls (.int y :: .int x :: st) G = if x < y then mc_ev X 62 19 ls st G else mc_ev X 62 17 ls st G) ∧
  (∀ (ls st : List Value) (G : mc_H), mc_ev X 62 17 ls st G = mc_ev X 62 18 ls (.int (-1) :: st) G) ∧
  (∀ (v : Int32) (ls : List Value) (G : mc_H), mc_ev X 62 18 ls [.int v] G = some (some (.int v), G)) ∧
  (∀ (v0 v1 v3 : Value) (x : Int32) (st : List Value) (G : mc_H), mc_ev X 62 19 [v0, v1, .int x, v3] st G = mc_ev X 62 20 [v0, v1, .int x, v3] (.int x :: st) G) ∧
  (∀ (ls st : List Value) (G : mc_H), mc_ev X 62 20 ls st G = mc_ev X 62 21 ls (.int 4 :: st) G) ∧
  (∀ (x y : Int32) (ls st : List Value) (G : mc_H), mc_ev X 62 21 ls (.int y :: .int x :: st) G = if x = y then mc_ev X 62 24 ls st G else mc_ev X 62 40 ls st G) ∧
  (∀ (v1 v2 v3 : Value) (x : Nat) (st : List Value) (G : mc_H), mc_ev X 62 24 [.ref x, v1, v2, v3] st G = mc_ev X 62 25 [.ref x, v1, v2, v3] (.ref x :: st) G) ∧
  (∀ (r : Nat) (ls st : List Value) (G : mc_H), mc_ev X 62 25 ls (.ref r :: st) G = (mc_getf G r 7 0).bind (fun v => mc_ev X 62 28 ls (v :: st) G)) ∧
  (∀ (r : Nat) (ls st : List Value) (G : mc_H), mc_ev X 62 28 ls (.ref r :: st) G = (mc_getf G r 4 0).bind (fun v => mc_ev X 62 31 ls (v :: st) G)) ∧
  (∀ (v0 v2 v3 : Value) (x : Int32) (st : List Value) (G : mc_H), mc_ev X 62 31 [v0, .int x, v2, v3] st G = mc_ev X 62 32 [v0, .int x, v2, v3] (.int x :: st) G) ∧
  (∀ (a0 : Int32) (r : Nat) (ls st : List Value) (G : mc_H), st.length ≤ 4 → mc_cls G r = some 0 → mc_ev X 62 32 ls (.int a0 :: .ref r :: st) G = (mc_ev X 5 0 [.ref r, .int a0] [] G).bind (fun q => mc_ev X 62 35 ls (q.1.toList ++ st) q.2)) ∧
  (∀ (x : Int32) (ls st : List Value) (G : mc_H), mc_ev X 62 35 ls (.int x :: st) G = if x = 0 then mc_ev X 62 38 ls st G else mc_ev X 62 40 ls st G) ∧
  (∀ (ls st : List Value) (G : mc_H), mc_ev X 62 38 ls st G = mc_ev X 62 39 ls (.int (-1) :: st) G) ∧
  (∀ (v : Int32) (ls : List Value) (G : mc_H), mc_ev X 62 39 ls [.int v] G = some (some (.int v), G)) ∧
  (∀ (v1 v2 v3 : Value) (x : Nat) (st : List Value) (G : mc_H), mc_ev X 62 40 [.ref x, v1, v2, v3] st G = mc_ev X 62 41 [.ref x, v1, v2, v3] (.ref x :: st) G) ∧
  (∀ (r : Nat) (ls st : List Value) (G : mc_H), st.length ≤ 4 → mc_cls G r = some 7 → mc_ev X 62 41 ls (.ref r :: st) G = (mc_ev X 109 0 [.ref r] [] G).bind (fun q => mc_ev X 62 44 ls (q.1.toList ++ st) q.2)) ∧
  (∀ (v1 v2 v3 : Value) (x : Nat) (st : List Value) (G : mc_H), mc_ev X 62 44 [.ref x, v1, v2, v3] st G = mc_ev X 62 45 [.ref x, v1, v2, v3] (.ref x :: st) G) ∧
  (∀ (r : Nat) (ls st : List Value) (G : mc_H), mc_ev X 62 45 ls (.ref r :: st) G = (mc_getf G r 7 0).bind (fun v => mc_ev X 62 48 ls (v :: st) G)) ∧
  (∀ (r : Nat) (ls st : List Value) (G : mc_H), mc_ev X 62 48 ls (.ref r :: st) G = (mc_getf G r 4 1).bind (fun v => mc_ev X 62 51 ls (v :: st) G)) ∧
  (∀ (r : Nat) (ls st : List Value) (G : mc_H), mc_ev X 62 51 ls (.ref r :: st) G = (mc_getf G r 5 3).bind (fun v => mc_ev X 62 54 ls (v :: st) G)) ∧
  (∀ (v0 v2 v3 : Value) (x : Int32) (st : List Value) (G : mc_H), mc_ev X 62 54 [v0, .int x, v2, v3] st G = mc_ev X 62 55 [v0, .int x, v2, v3] (.int x :: st) G) ∧
  (∀ (i : Int32) (r : Value) (ls st : List Value) (G : mc_H), mc_ev X 62 55 ls (.int i :: r :: st) G = (mc_getA X G 0 r i).bind (fun x => mc_ev X 62 56 ls (.int x :: st) G)) ∧
  (∀ (v0 v1 v2 v3 : Value) (x : Int32) (st : List Value) (G : mc_H), mc_ev X 62 56 [v0, v1, v2, v3] (.int x :: st) G = mc_ev X 62 57 [v0, v1, v2, .int x] st G) ∧
  (∀ (v1 v2 v3 : Value) (x : Nat) (st : List Value) (G : mc_H), mc_ev X 62 57 [.ref x, v1, v2, v3] st G = mc_ev X 62 58 [.ref x, v1, v2, v3] (.ref x :: st) G) ∧
  (∀ (r : Nat) (ls st : List Value) (G : mc_H), mc_ev X 62 58 ls (.ref r :: st) G = (mc_getf G r 7 0).bind (fun v => mc_ev X 62 61 ls (v :: st) G)) ∧
  (∀ (r : Nat) (ls st : List Value) (G : mc_H), mc_ev X 62 61 ls (.ref r :: st) G = (mc_getf G r 4 1).bind (fun v => mc_ev X 62 64 ls (v :: st) G)) ∧
  (∀ (r : Nat) (ls st : List Value) (G : mc_H), mc_ev X 62 64 ls (.ref r :: st) G = (mc_getf G r 5 3).bind (fun v => mc_ev X 62 67 ls (v :: st) G)) ∧
  (∀ (v0 v2 v3 : Value) (x : Int32) (st : List Value) (G : mc_H), mc_ev X 62 67 [v0, .int x, v2, v3] st G = mc_ev X 62 68 [v0, .int x, v2, v3] (.int x :: st) G) ∧
  (∀ (v0 v1 v3 : Value) (x : Int32) (st : List Value) (G : mc_H), mc_ev X 62 68 [v0, v1, .int x, v3] st G = mc_ev X 62 69 [v0, v1, .int x, v3] (.int x :: st) G) ∧
  (∀ (x i : Int32) (r : Nat) (ls st : List Value) (G : mc_H), mc_ev X 62 69 ls (.int x :: .int i :: .ref r :: st) G = (mc_setA G 0 r i x).bind (fun G' => mc_ev X 62 70 ls st G')) ∧
  (∀ (v1 v2 v3 : Value) (x : Nat) (st : List Value) (G : mc_H), mc_ev X 62 70 [.ref x, v1, v2, v3] st G = mc_ev X 62 71 [.ref x, v1, v2, v3] (.ref x :: st) G) ∧
  (∀ (r : Nat) (ls st : List Value) (G : mc_H), mc_ev X 62 71 ls (.ref r :: st) G = (mc_getf G r 7 0).bind (fun v => mc_ev X 62 74 ls (v :: st) G)) ∧
  (∀ (r : Nat) (ls st : List Value) (G : mc_H), mc_ev X 62 74 ls (.ref r :: st) G = (mc_getf G r 4 1).bind (fun v => mc_ev X 62 77 ls (v :: st) G)) ∧
  (∀ (x : Nat) (ls st : List Value) (G : mc_H), mc_ev X 62 77 ls (.ref x :: st) G = mc_ev X 62 78 ls (.ref x :: .ref x :: st) G) ∧
  (∀ (r : Nat) (ls st : List Value) (G : mc_H), mc_ev X 62 78 ls (.ref r :: st) G = (mc_getf G r 5 2).bind (fun v => mc_ev X 62 81 ls (v :: st) G)) ∧
  (∀ (v1 v2 v3 : Value) (x : Nat) (st : List Value) (G : mc_H), mc_ev X 62 81 [.ref x, v1, v2, v3] st G = mc_ev X 62 82 [.ref x, v1, v2, v3] (.ref x :: st) G) ∧
  (∀ (r : Nat) (ls st : List Value) (G : mc_H), mc_ev X 62 82 ls (.ref r :: st) G = (mc_getf G r 7 0).bind (fun v => mc_ev X 62 85 ls (v :: st) G)) ∧
  (∀ (v0 v2 v3 : Value) (x : Int32) (st : List Value) (G : mc_H), mc_ev X 62 85 [v0, .int x, v2, v3] st G = mc_ev X 62 86 [v0, .int x, v2, v3] (.int x :: st) G) ∧
  (∀ (a0 : Int32) (r : Nat) (ls st : List Value) (G : mc_H), st.length ≤ 4 → mc_cls G r = some 4 → mc_ev X 62 86 ls (.int a0 :: .ref r :: st) G = (mc_ev X 28 0 [.ref r, .int a0] [] G).bind (fun q => mc_ev X 62 89 ls (q.1.toList ++ st) q.2)) ∧
  (∀ (ls st : List Value) (G : mc_H), mc_ev X 62 89 ls st G = mc_ev X 62 90 ls (.int (-1) :: st) G) ∧
  (∀ (x y : Int32) (ls st : List Value) (G : mc_H), mc_ev X 62 90 ls (.int y :: .int x :: st) G = mc_ev X 62 91 ls (.int (x ^^^ y) :: st) G) ∧
  (∀ (x y : Int32) (ls st : List Value) (G : mc_H), mc_ev X 62 91 ls (.int y :: .int x :: st) G = mc_ev X 62 92 ls (.int (x &&& y) :: st) G) ∧
  (∀ (v : Value) (r : Nat) (ls st : List Value) (G : mc_H), mc_ev X 62 92 ls (v :: .ref r :: st) G = (mc_setf G r 5 2 v).bind (fun G' => mc_ev X 62 95 ls st G')) ∧
  (∀ (v0 v1 v2 : Value) (x : Int32) (st : List Value) (G : mc_H), mc_ev X 62 95 [v0, v1, v2, .int x] st G = mc_ev X 62 96 [v0, v1, v2, .int x] (.int x :: st) G) ∧
  (∀ (v : Int32) (ls : List Value) (G : mc_H), mc_ev X 62 96 ls [.int v] G = some (some (.int v), G)) := ⟨fun v1 v2 v3 x st G => ev_aload_n rfl rfl,
  fun v0 v2 v3 x st G => ev_iload_n rfl rfl,
  fun a0 r ls st G hr hG => ev_virt (As := [.int a0]) rfl rfl rfl rfl rfl rfl hr hG,
  fun x ls st G => ev_br rfl rfl,
  fun v0 v1 v3 x st G => ev_iload_n rfl rfl,
  fun x ls st G => ev_br rfl rfl,
  fun v0 v1 v3 x st G => ev_iload_n rfl rfl,
  fun ls st G => ev_iconst rfl rfl,
  fun x y ls st G => ev_br rfl rfl,
  fun ls st G => ev_iconst rfl rfl,
  fun v ls G => ev_ireturn rfl rfl,
  fun v0 v1 v3 x st G => ev_iload_n rfl rfl,
  fun ls st G => ev_iconst rfl rfl,
  fun x y ls st G => ev_br rfl rfl,
  fun v1 v2 v3 x st G => ev_aload_n rfl rfl,
  fun r ls st G => ev_getfield rfl,
  fun r ls st G => ev_getfield rfl,
  fun v0 v2 v3 x st G => ev_iload_n rfl rfl,
  fun a0 r ls st G hr hG => ev_virt (As := [.int a0]) rfl rfl rfl rfl rfl rfl hr hG,
  fun x ls st G => ev_br rfl rfl,
  fun ls st G => ev_iconst rfl rfl,
  fun v ls G => ev_ireturn rfl rfl,
  fun v1 v2 v3 x st G => ev_aload_n rfl rfl,
  fun r ls st G hr hG => ev_virt (As := []) rfl rfl rfl rfl rfl rfl hr hG,
  fun v1 v2 v3 x st G => ev_aload_n rfl rfl,
  fun r ls st G => ev_getfield rfl,
  fun r ls st G => ev_getfield rfl,
  fun r ls st G => ev_getfield rfl,
  fun v0 v2 v3 x st G => ev_iload_n rfl rfl,
  fun i r ls st G => ev_iaload rfl,
  fun v0 v1 v2 v3 x st G => ev_istore_n (X := X) (k := 62) (pc := 56) (ls := [v0, v1, v2, v3]) (st := st) (G := G) (j := 3) (x := x) rfl (Nat.le_of_ble_eq_true rfl),
  fun v1 v2 v3 x st G => ev_aload_n rfl rfl,
  fun r ls st G => ev_getfield rfl,
  fun r ls st G => ev_getfield rfl,
  fun r ls st G => ev_getfield rfl,
  fun v0 v2 v3 x st G => ev_iload_n rfl rfl,
  fun v0 v1 v3 x st G => ev_iload_n rfl rfl,
  fun x i r ls st G => ev_iastore rfl,
  fun v1 v2 v3 x st G => ev_aload_n rfl rfl,
  fun r ls st G => ev_getfield rfl,
  fun r ls st G => ev_getfield rfl,
  fun x ls st G => ev_dup rfl,
  fun r ls st G => ev_getfield rfl,
  fun v1 v2 v3 x st G => ev_aload_n rfl rfl,
  fun r ls st G => ev_getfield rfl,
  fun v0 v2 v3 x st G => ev_iload_n rfl rfl,
  fun a0 r ls st G hr hG => ev_virt (As := [.int a0]) rfl rfl rfl rfl rfl rfl hr hG,
  fun ls st G => ev_iconst rfl rfl,
  fun x y ls st G => ev_ixor rfl,
  fun x y ls st G => ev_iand rfl,
  fun v r ls st G => ev_putfield rfl,
  fun v0 v1 v2 x st G => ev_iload_n rfl rfl,
  fun v ls G => ev_ireturn rfl rfl⟩
theorem e_63 {X : mc_X} : (∀ (v1 v2 v3 : Value) (x : Nat) (st : List Value) (G : mc_H), mc_ev X 63 0 [.ref x, v1, v2, v3] st G = mc_ev X 63 1 [.ref x, v1, v2, v3] (.ref x :: st) G) ∧
  (∀ (v0 v2 v3 : Value) (x : Int32) (st : List Value) (G : mc_H), mc_ev X 63 1 [v0, .int x, v2, v3] st G = mc_ev X 63 2 [v0, .int x, v2, v3] (.int x :: st) G) ∧
  (∀ (a0 : Int32) (r : Nat) (ls st : List Value) (G : mc_H), st.length ≤ 4 → mc_cls G r = some 7 → mc_ev X 63 2 ls (.int a0 :: .ref r :: st) G = (mc_ev X 96 0 [.ref r, .int a0] [] G).bind (fun q => mc_ev X 63 5 ls (q.1.toList ++ st) q.2)) ∧
  (∀ (x : Int32) (ls st : List Value) (G : mc_H), mc_ev X 63 5 ls (.int x :: st) G = if x = 0 then mc_ev X 63 8 ls st G else mc_ev X 63 17 ls st G) ∧
  (∀ (v0 v1 v3 : Value) (x : Int32) (st : List Value) (G : mc_H), mc_ev X 63 8 [v0, v1, .int x, v3] st G = mc_ev X 63 9 [v0, v1, .int x, v3] (.int x :: st) G) ∧
  (∀ (x : Int32) (ls st : List Value) (G : mc_H), mc_ev X 63 9 ls (.int x :: st) G = if x < 0 then mc_ev X 63 17 ls st G else mc_ev X 63 12 ls st G) ∧
  (∀ (v0 v1 v3 : Value) (x : Int32) (st : List Value) (G : mc_H), mc_ev X 63 12 [v0, v1, .int x, v3] st G = mc_ev X 63 13 [v0, v1, .int x, v3] (.int x :: st) G) ∧
  (∀ (ls st : List Value) (G : mc_H), mc_ev X 63 13 ls st G = mc_ev X 63 14 ls (.int 1 :: st) G) ∧
  (∀ (x y : Int32) (ls st : List Value) (G : mc_H), mc_ev X 63 14 ls (.int y :: .int x :: st) G = if y < x then mc_ev X 63 17 ls st G else mc_ev X 63 19 ls st G) ∧
  (∀ (ls st : List Value) (G : mc_H), mc_ev X 63 17 ls st G = mc_ev X 63 18 ls (.int (-1) :: st) G) ∧
  (∀ (v : Int32) (ls : List Value) (G : mc_H), mc_ev X 63 18 ls [.int v] G = some (some (.int v), G)) ∧
  (∀ (v1 v2 v3 : Value) (x : Nat) (st : List Value) (G : mc_H), mc_ev X 63 19 [.ref x, v1, v2, v3] st G = mc_ev X 63 20 [.ref x, v1, v2, v3] (.ref x :: st) G) ∧
  (∀ (r : Nat) (ls st : List Value) (G : mc_H), st.length ≤ 4 → mc_cls G r = some 7 → mc_ev X 63 20 ls (.ref r :: st) G = (mc_ev X 109 0 [.ref r] [] G).bind (fun q => mc_ev X 63 23 ls (q.1.toList ++ st) q.2)) ∧
  (∀ (v1 v2 v3 : Value) (x : Nat) (st : List Value) (G : mc_H), mc_ev X 63 23 [.ref x, v1, v2, v3] st G = mc_ev X 63 24 [.ref x, v1, v2, v3] (.ref x :: st) G) ∧
  (∀ (r : Nat) (ls st : List Value) (G : mc_H), mc_ev X 63 24 ls (.ref r :: st) G = (mc_getf G r 7 0).bind (fun v => mc_ev X 63 27 ls (v :: st) G)) ∧
  (∀ (v1 v2 v3 : Value) (x : Nat) (st : List Value) (G : mc_H), mc_ev X 63 27 [.ref x, v1, v2, v3] st G = mc_ev X 63 28 [.ref x, v1, v2, v3] (.ref x :: st) G) ∧
  (∀ (r : Nat) (ls st : List Value) (G : mc_H), mc_ev X 63 28 ls (.ref r :: st) G = (mc_getf G r 7 0).bind (fun v => mc_ev X 63 31 ls (v :: st) G)) ∧
  (∀ (r : Nat) (ls st : List Value) (G : mc_H), mc_ev X 63 31 ls (.ref r :: st) G = (mc_getf G r 4 1).bind (fun v => mc_ev X 63 34 ls (v :: st) G)) ∧
  (∀ (r : Nat) (ls st : List Value) (G : mc_H), mc_ev X 63 34 ls (.ref r :: st) G = (mc_getf G r 5 1).bind (fun v => mc_ev X 63 37 ls (v :: st) G)) ∧
  (∀ (v0 v2 v3 : Value) (x : Int32) (st : List Value) (G : mc_H), mc_ev X 63 37 [v0, .int x, v2, v3] st G = mc_ev X 63 38 [v0, .int x, v2, v3] (.int x :: st) G) ∧
  (∀ (a0 : Int32) (a1 : Int32) (r : Nat) (ls st : List Value) (G : mc_H), st.length ≤ 4 → mc_cls G r = some 4 → mc_ev X 63 38 ls (.int a1 :: .int a0 :: .ref r :: st) G = (mc_ev X 29 0 [.ref r, .int a0, .int a1] [] G).bind (fun q => mc_ev X 63 41 ls (q.1.toList ++ st) q.2)) ∧
  (∀ (v0 v1 v2 v3 : Value) (x : Int32) (st : List Value) (G : mc_H), mc_ev X 63 41 [v0, v1, v2, v3] (.int x :: st) G = mc_ev X 63 42 [v0, v1, v2, .int x] st G) ∧
  (∀ (v1 v2 v3 : Value) (x : Nat) (st : List Value) (G : mc_H), mc_ev X 63 42 [.ref x, v1, v2, v3] st G = mc_ev X 63 43 [.ref x, v1, v2, v3] (.ref x :: st) G) ∧
  (∀ (r : Nat) (ls st : List Value) (G : mc_H), mc_ev X 63 43 ls (.ref r :: st) G = (mc_getf G r 7 0).bind (fun v => mc_ev X 63 46 ls (v :: st) G)) ∧
  (∀ (r : Nat) (ls st : List Value) (G : mc_H), mc_ev X 63 46 ls (.ref r :: st) G = (mc_getf G r 4 1).bind (fun v => mc_ev X 63 49 ls (v :: st) G)) ∧
  (∀ (v1 v2 v3 : Value) (x : Nat) (st : List Value) (G : mc_H), mc_ev X 63 49 [.ref x, v1, v2, v3] st G = mc_ev X 63 50 [.ref x, v1, v2, v3] (.ref x :: st) G) ∧
  (∀ (r : Nat) (ls st : List Value) (G : mc_H), mc_ev X 63 50 ls (.ref r :: st) G = (mc_getf G r 7 0).bind (fun v => mc_ev X 63 53 ls (v :: st) G)) ∧
  (∀ (v1 v2 v3 : Value) (x : Nat) (st : List Value) (G : mc_H), mc_ev X 63 53 [.ref x, v1, v2, v3] st G = mc_ev X 63 54 [.ref x, v1, v2, v3] (.ref x :: st) G) ∧
  (∀ (r : Nat) (ls st : List Value) (G : mc_H), mc_ev X 63 54 ls (.ref r :: st) G = (mc_getf G r 7 0).bind (fun v => mc_ev X 63 57 ls (v :: st) G)) ∧
  (∀ (r : Nat) (ls st : List Value) (G : mc_H), mc_ev X 63 57 ls (.ref r :: st) G = (mc_getf G r 4 1).bind (fun v => mc_ev X 63 60 ls (v :: st) G)) ∧
  (∀ (r : Nat) (ls st : List Value) (G : mc_H), mc_ev X 63 60 ls (.ref r :: st) G = (mc_getf G r 5 1).bind (fun v => mc_ev X 63 63 ls (v :: st) G)) ∧
  (∀ (v0 v2 v3 : Value) (x : Int32) (st : List Value) (G : mc_H), mc_ev X 63 63 [v0, .int x, v2, v3] st G = mc_ev X 63 64 [v0, .int x, v2, v3] (.int x :: st) G) ∧
  (∀ (v0 v1 v3 : Value) (x : Int32) (st : List Value) (G : mc_H), mc_ev X 63 64 [v0, v1, .int x, v3] st G = mc_ev X 63 65 [v0, v1, .int x, v3] (.int x :: st) G) ∧
  (∀ (ls st : List Value) (G : mc_H), mc_ev X 63 65 ls st G = mc_ev X 63 66 ls (.int 1 :: st) G) ∧
  (∀ (x y : Int32) (ls st : List Value) (G : mc_H), mc_ev X 63 66 ls (.int y :: .int x :: st) G = if x = y then mc_ev X 63 69 ls st G else mc_ev X 63 73 ls st G) ∧
  (∀ (ls st : List Value) (G : mc_H), mc_ev X 63 69 ls st G = mc_ev X 63 70 ls (.int 1 :: st) G) ∧
  (∀ (ls st : List Value) (G : mc_H), mc_ev X 63 70 ls st G = mc_ev X 63 74 ls st G) ∧
  (∀ (ls st : List Value) (G : mc_H), mc_ev X 63 73 ls st G = mc_ev X 63 74 ls (.int 0 :: st) G) ∧
  (∀ (a0 : Int32) (a1 : Int32) (a2 : Int32) (r : Nat) (ls st : List Value) (G : mc_H), st.length ≤ 4 → mc_cls G r = some 4 → mc_ev X 63 74 ls (.int a2 :: .int a1 :: .int a0 :: .ref r :: st) G = (mc_ev X 30 0 [.ref r, .int a0, .int a1, .int a2] [] G).bind (fun q => mc_ev X 63 77 ls (q.1.toList ++ st) q.2)) ∧
  (∀ (v : Value) (r : Nat) (ls st : List Value) (G : mc_H), mc_ev X 63 77 ls (v :: .ref r :: st) G = (mc_setf G r 5 1 v).bind (fun G' => mc_ev X 63 80 ls st G')) ∧
  (∀ (v0 v1 v2 : Value) (x : Int32) (st : List Value) (G : mc_H), mc_ev X 63 80 [v0, v1, v2, .int x] st G = mc_ev X 63 81 [v0, v1, v2, .int x] (.int x :: st) G) ∧
  (∀ (v : Int32) (ls : List Value) (G : mc_H), mc_ev X 63 81 ls [.int v] G = some (some (.int v), G)) := ⟨fun v1 v2 v3 x st G => ev_aload_n rfl rfl,
  fun v0 v2 v3 x st G => ev_iload_n rfl rfl,
  fun a0 r ls st G hr hG => ev_virt (As := [.int a0]) rfl rfl rfl rfl rfl rfl hr hG,
  fun x ls st G => ev_br rfl rfl,
  fun v0 v1 v3 x st G => ev_iload_n rfl rfl,
  fun x ls st G => ev_br rfl rfl,
  fun v0 v1 v3 x st G => ev_iload_n rfl rfl,
  fun ls st G => ev_iconst rfl rfl,
  fun x y ls st G => ev_br rfl rfl,
  fun ls st G => ev_iconst rfl rfl,
  fun v ls G => ev_ireturn rfl rfl,
  fun v1 v2 v3 x st G => ev_aload_n rfl rfl,
  fun r ls st G hr hG => ev_virt (As := []) rfl rfl rfl rfl rfl rfl hr hG,
  fun v1 v2 v3 x st G => ev_aload_n rfl rfl,
  fun r ls st G => ev_getfield rfl,
  fun v1 v2 v3 x st G => ev_aload_n rfl rfl,
  fun r ls st G => ev_getfield rfl,
  fun r ls st G => ev_getfield rfl,
  fun r ls st G => ev_getfield rfl,
  fun v0 v2 v3 x st G => ev_iload_n rfl rfl,
  fun a0 a1 r ls st G hr hG => ev_virt (As := [.int a0, .int a1]) rfl rfl rfl rfl rfl rfl hr hG,
  fun v0 v1 v2 v3 x st G => ev_istore_n (X := X) (k := 63) (pc := 41) (ls := [v0, v1, v2, v3]) (st := st) (G := G) (j := 3) (x := x) rfl (Nat.le_of_ble_eq_true rfl),
  fun v1 v2 v3 x st G => ev_aload_n rfl rfl,
  fun r ls st G => ev_getfield rfl,
  fun r ls st G => ev_getfield rfl,
  fun v1 v2 v3 x st G => ev_aload_n rfl rfl,
  fun r ls st G => ev_getfield rfl,
  fun v1 v2 v3 x st G => ev_aload_n rfl rfl,
  fun r ls st G => ev_getfield rfl,
  fun r ls st G => ev_getfield rfl,
  fun r ls st G => ev_getfield rfl,
  fun v0 v2 v3 x st G => ev_iload_n rfl rfl,
  fun v0 v1 v3 x st G => ev_iload_n rfl rfl,
  fun ls st G => ev_iconst rfl rfl,
  fun x y ls st G => ev_br rfl rfl,
  fun ls st G => ev_iconst rfl rfl,
  fun ls st G => ev_goto rfl rfl,
  fun ls st G => ev_iconst rfl rfl,
  fun a0 a1 a2 r ls st G hr hG => ev_virt (As := [.int a0, .int a1, .int a2]) rfl rfl rfl rfl rfl rfl hr hG,
  fun v r ls st G => ev_putfield rfl,
  fun v0 v1 v2 x st G => ev_iload_n rfl rfl,
  fun v ls G => ev_ireturn rfl rfl⟩
theorem e_64 {X : mc_X} : (∀ (v1 v2 v3 : Value) (x : Nat) (st : List Value) (G : mc_H), mc_ev X 64 0 [.ref x, v1, v2, v3] st G = mc_ev X 64 1 [.ref x, v1, v2, v3] (.ref x :: st) G) ∧
  (∀ (v0 v2 v3 : Value) (x : Int32) (st : List Value) (G : mc_H), mc_ev X 64 1 [v0, .int x, v2, v3] st G = mc_ev X 64 2 [v0, .int x, v2, v3] (.int x :: st) G) ∧
  (∀ (a0 : Int32) (r : Nat) (ls st : List Value) (G : mc_H), st.length ≤ 4 → mc_cls G r = some 7 → mc_ev X 64 2 ls (.int a0 :: .ref r :: st) G = (mc_ev X 96 0 [.ref r, .int a0] [] G).bind (fun q => mc_ev X 64 5 ls (q.1.toList ++ st) q.2)) ∧
  (∀ (x : Int32) (ls st : List Value) (G : mc_H), mc_ev X 64 5 ls (.int x :: st) G = if x = 0 then mc_ev X 64 8 ls st G else mc_ev X 64 24 ls st G) ∧
  (∀ (v1 v2 v3 : Value) (x : Nat) (st : List Value) (G : mc_H), mc_ev X 64 8 [.ref x, v1, v2, v3] st G = mc_ev X 64 9 [.ref x, v1, v2, v3] (.ref x :: st) G) ∧
  (∀ (r : Nat) (ls st : List Value) (G : mc_H), mc_ev X 64 9 ls (.ref r :: st) G = (mc_getf G r 7 0).bind (fun v => mc_ev X 64 12 ls (v :: st) G)) ∧
  (∀ (r : Nat) (ls st : List Value) (G : mc_H), mc_ev X 64 12 ls (.ref r :: st) G = (mc_getf G r 4 1).bind (fun v => mc_ev X 64 15 ls (v :: st) G)) ∧
  (∀ (r : Nat) (ls st : List Value) (G : mc_H), mc_ev X 64 15 ls (.ref r :: st) G = (mc_getf G r 5 3).bind (fun v => mc_ev X 64 18 ls (v :: st) G)) ∧
  (∀ (v0 v2 v3 : Value) (x : Int32) (st : List Value) (G : mc_H), mc_ev X 64 18 [v0, .int x, v2, v3] st G = mc_ev X 64 19 [v0, .int x, v2, v3] (.int x :: st) G) ∧
  (∀ (i : Int32) (r : Value) (ls st : List Value) (G : mc_H), mc_ev X 64 19 ls (.int i :: r :: st) G = (mc_getA X G 0 r i).bind (fun x => mc_ev X 64 20 ls (.int x :: st) G)) ∧
  (∀ (ls st : List Value) (G : mc_H), mc_ev X 64 20 ls st G = mc_ev X 64 21 ls (.int 4 :: st) G) ∧
  (∀ (x y : Int32) (ls st : List Value) (G : mc_H), mc_ev X 64 21 ls (.int y :: .int x :: st) G = if x = y then mc_ev X 64 26 ls st G else mc_ev X 64 24 ls st G) ∧
  (∀ (ls st : List Value) (G : mc_H), mc_ev X 64 24 ls st G = mc_ev X 64 25 ls (.int (-1) :: st) G) ∧
  (∀ (v : Int32) (ls : List Value) (G : mc_H), mc_ev X 64 25 ls [.int v] G = some (some (.int v), G)) ∧
  (∀ (v1 v2 v3 : Value) (x : Nat) (st : List Value) (G : mc_H), mc_ev X 64 26 [.ref x, v1, v2, v3] st G = mc_ev X 64 27 [.ref x, v1, v2, v3] (.ref x :: st) G) ∧
  (∀ (r : Nat) (ls st : List Value) (G : mc_H), st.length ≤ 4 → mc_cls G r = some 7 → mc_ev X 64 27 ls (.ref r :: st) G = (mc_ev X 109 0 [.ref r] [] G).bind (fun q => mc_ev X 64 30 ls (q.1.toList ++ st) q.2)) ∧
  (∀ (v1 v2 v3 : Value) (x : Nat) (st : List Value) (G : mc_H), mc_ev X 64 30 [.ref x, v1, v2, v3] st G = mc_ev X 64 31 [.ref x, v1, v2, v3] (.ref x :: st) G) ∧
  (∀ (r : Nat) (ls st : List Value) (G : mc_H), mc_ev X 64 31 ls (.ref r :: st) G = (mc_getf G r 7 0).bind (fun v => mc_ev X 64 34 ls (v :: st) G)) ∧
  (∀ (v1 v2 v3 : Value) (x : Nat) (st : List Value) (G : mc_H), mc_ev X 64 34 [.ref x, v1, v2, v3] st G = mc_ev X 64 35 [.ref x, v1, v2, v3] (.ref x :: st) G) ∧
  (∀ (r : Nat) (ls st : List Value) (G : mc_H), mc_ev X 64 35 ls (.ref r :: st) G = (mc_getf G r 7 0).bind (fun v => mc_ev X 64 38 ls (v :: st) G)) ∧
  (∀ (r : Nat) (ls st : List Value) (G : mc_H), mc_ev X 64 38 ls (.ref r :: st) G = (mc_getf G r 4 1).bind (fun v => mc_ev X 64 41 ls (v :: st) G)) ∧
  (∀ (r : Nat) (ls st : List Value) (G : mc_H), mc_ev X 64 41 ls (.ref r :: st) G = (mc_getf G r 5 2).bind (fun v => mc_ev X 64 44 ls (v :: st) G)) ∧
  (∀ (v0 v2 v3 : Value) (x : Int32) (st : List Value) (G : mc_H), mc_ev X 64 44 [v0, .int x, v2, v3] st G = mc_ev X 64 45 [v0, .int x, v2, v3] (.int x :: st) G) ∧
  (∀ (a0 : Int32) (a1 : Int32) (r : Nat) (ls st : List Value) (G : mc_H), st.length ≤ 4 → mc_cls G r = some 4 → mc_ev X 64 45 ls (.int a1 :: .int a0 :: .ref r :: st) G = (mc_ev X 29 0 [.ref r, .int a0, .int a1] [] G).bind (fun q => mc_ev X 64 48 ls (q.1.toList ++ st) q.2)) ∧
  (∀ (v0 v1 v2 v3 : Value) (x : Int32) (st : List Value) (G : mc_H), mc_ev X 64 48 [v0, v1, v2, v3] (.int x :: st) G = mc_ev X 64 49 [v0, v1, v2, .int x] st G) ∧
  (∀ (v1 v2 v3 : Value) (x : Nat) (st : List Value) (G : mc_H), mc_ev X 64 49 [.ref x, v1, v2, v3] st G = mc_ev X 64 50 [.ref x, v1, v2, v3] (.ref x :: st) G) ∧
  (∀ (r : Nat) (ls st : List Value) (G : mc_H), mc_ev X 64 50 ls (.ref r :: st) G = (mc_getf G r 7 0).bind (fun v => mc_ev X 64 53 ls (v :: st) G)) ∧
  (∀ (r : Nat) (ls st : List Value) (G : mc_H), mc_ev X 64 53 ls (.ref r :: st) G = (mc_getf G r 4 1).bind (fun v => mc_ev X 64 56 ls (v :: st) G)) ∧
  (∀ (v1 v2 v3 : Value) (x : Nat) (st : List Value) (G : mc_H), mc_ev X 64 56 [.ref x, v1, v2, v3] st G = mc_ev X 64 57 [.ref x, v1, v2, v3] (.ref x :: st) G) ∧
  (∀ (r : Nat) (ls st : List Value) (G : mc_H), mc_ev X 64 57 ls (.ref r :: st) G = (mc_getf G r 7 0).bind (fun v => mc_ev X 64 60 ls (v :: st) G)) ∧
  (∀ (v1 v2 v3 : Value) (x : Nat) (st : List Value) (G : mc_H), mc_ev X 64 60 [.ref x, v1, v2, v3] st G = mc_ev X 64 61 [.ref x, v1, v2, v3] (.ref x :: st) G) ∧
  (∀ (r : Nat) (ls st : List Value) (G : mc_H), mc_ev X 64 61 ls (.ref r :: st) G = (mc_getf G r 7 0).bind (fun v => mc_ev X 64 64 ls (v :: st) G)) ∧
  (∀ (r : Nat) (ls st : List Value) (G : mc_H), mc_ev X 64 64 ls (.ref r :: st) G = (mc_getf G r 4 1).bind (fun v => mc_ev X 64 67 ls (v :: st) G)) ∧
  (∀ (r : Nat) (ls st : List Value) (G : mc_H), mc_ev X 64 67 ls (.ref r :: st) G = (mc_getf G r 5 2).bind (fun v => mc_ev X 64 70 ls (v :: st) G)) ∧
  (∀ (v0 v2 v3 : Value) (x : Int32) (st : List Value) (G : mc_H), mc_ev X 64 70 [v0, .int x, v2, v3] st G = mc_ev X 64 71 [v0, .int x, v2, v3] (.int x :: st) G) ∧
  (∀ (v0 v1 v3 : Value) (x : Int32) (st : List Value) (G : mc_H), mc_ev X 64 71 [v0, v1, .int x, v3] st G = mc_ev X 64 72 [v0, v1, .int x, v3] (.int x :: st) G) ∧
  (∀ (a0 : Int32) (a1 : Int32) (a2 : Int32) (r : Nat) (ls st : List Value) (G : mc_H), st.length ≤ 4 → mc_cls G r = some 4 → mc_ev X 64 72 ls (.int a2 :: .int a1 :: .int a0 :: .ref r :: st) G = (mc_ev X 30 0 [.ref r, .int a0, .int a1, .int a2] [] G).bind (fun q => mc_ev X 64 75 ls (q.1.toList ++ st) q.2)) ∧
  (∀ (v : Value) (r : Nat) (ls st : List Value) (G : mc_H), mc_ev X 64 75 ls (v :: .ref r :: st) G = (mc_setf G r 5 2 v).bind (fun G' => mc_ev X 64 78 ls st G')) ∧
  (∀ (v0 v1 v2 : Value) (x : Int32) (st : List Value) (G : mc_H), mc_ev X 64 78 [v0, v1, v2, .int x] st G = mc_ev X 64 79 [v0, v1, v2, .int x] (.int x :: st) G) ∧
  (∀ (v : Int32) (ls : List Value) (G : mc_H), mc_ev X 64 79 ls [.int v] G = some (some (.int v), G)) := ⟨fun v1 v2 v3 x st G => ev_aload_n rfl rfl,
  fun v0 v2 v3 x st G => ev_iload_n rfl rfl,
  fun a0 r ls st G hr hG => ev_virt (As := [.int a0]) rfl rfl rfl rfl rfl rfl hr hG,
  fun x ls st G => ev_br rfl rfl,
  fun v1 v2 v3 x st G => ev_aload_n rfl rfl,
  fun r ls st G => ev_getfield rfl,
  fun r ls st G => ev_getfield rfl,
  fun r ls st G => ev_getfield rfl,
  fun v0 v2 v3 x st G => ev_iload_n rfl rfl,
  fun i r ls st G => ev_iaload rfl,
  fun ls st G => ev_iconst rfl rfl,
  fun x y ls st G => ev_br rfl rfl,
  fun ls st G => ev_iconst rfl rfl,
  fun v ls G => ev_ireturn rfl rfl,
  fun v1 v2 v3 x st G => ev_aload_n rfl rfl,
  fun r ls st G hr hG => ev_virt (As := []) rfl rfl rfl rfl rfl rfl hr hG,
  fun v1 v2 v3 x st G => ev_aload_n rfl rfl,
  fun r ls st G => ev_getfield rfl,
  fun v1 v2 v3 x st G => ev_aload_n rfl rfl,
  fun r ls st G => ev_getfield rfl,
  fun r ls st G => ev_getfield rfl,
  fun r ls st G => ev_getfield rfl,
  fun v0 v2 v3 x st G => ev_iload_n rfl rfl,
  fun a0 a1 r ls st G hr hG => ev_virt (As := [.int a0, .int a1]) rfl rfl rfl rfl rfl rfl hr hG,
  fun v0 v1 v2 v3 x st G => ev_istore_n (X := X) (k := 64) (pc := 48) (ls := [v0, v1, v2, v3]) (st := st) (G := G) (j := 3) (x := x) rfl (Nat.le_of_ble_eq_true rfl),
  fun v1 v2 v3 x st G => ev_aload_n rfl rfl,
  fun r ls st G => ev_getfield rfl,
  fun r ls st G => ev_getfield rfl,
  fun v1 v2 v3 x st G => ev_aload_n rfl rfl,
  fun r ls st G => ev_getfield rfl,
  fun v1 v2 v3 x st G => ev_aload_n rfl rfl,
  fun r ls st G => ev_getfield rfl,
  fun r ls st G => ev_getfield rfl,
  fun r ls st G => ev_getfield rfl,
  fun v0 v2 v3 x st G => ev_iload_n rfl rfl,
  fun v0 v1 v3 x st G => ev_iload_n rfl rfl,
  fun a0 a1 a2 r ls st G hr hG => ev_virt (As := [.int a0, .int a1, .int a2]) rfl rfl rfl rfl rfl rfl hr hG,
  fun v r ls st G => ev_putfield rfl,
  fun v0 v1 v2 x st G => ev_iload_n rfl rfl,
  fun v ls G => ev_ireturn rfl rfl⟩
theorem e_65 {X : mc_X} : (∀ (v1 v2 : Value) (x : Nat) (st : List Value) (G : mc_H), mc_ev X 65 0 [.ref x, v1, v2] st G = mc_ev X 65 1 [.ref x, v1, v2] (.ref x :: st) G) ∧
  (∀ (v0 v2 : Value) (x : Int32) (st : List Value) (G : mc_H), mc_ev X 65 1 [v0, .int x, v2] st G = mc_ev X 65 2 [v0, .int x, v2] (.int x :: st) G) ∧
  (∀ (a0 : Int32) (r : Nat) (ls st : List Value) (G : mc_H), st.length ≤ 4 → mc_cls G r = some 7 → mc_ev X 65 2 ls (.int a0 :: .ref r :: st) G = (mc_ev X 96 0 [.ref r, .int a0] [] G).bind (fun q => mc_ev X 65 5 ls (q.1.toList ++ st) q.2)) ∧
  (∀ (x : Int32) (ls st : List Value) (G : mc_H), mc_ev X 65 5 ls (.int x :: st) G = if x = 0 then mc_ev X 65 11 ls st G else mc_ev X 65 8 ls st G) ∧
  (∀ (ls st : List Value) (G : mc_H), mc_ev X 65 8 ls st G = mc_ev X 65 10 ls (.int (-1000000) :: st) G) ∧
  (∀ (v : Int32) (ls : List Value) (G : mc_H), mc_ev X 65 10 ls [.int v] G = some (some (.int v), G)) ∧
  (∀ (v1 v2 : Value) (x : Nat) (st : List Value) (G : mc_H), mc_ev X 65 11 [.ref x, v1, v2] st G = mc_ev X 65 12 [.ref x, v1, v2] (.ref x :: st) G) ∧
  (∀ (r : Nat) (ls st : List Value) (G : mc_H), mc_ev X 65 12 ls (.ref r :: st) G = (mc_getf G r 7 1).bind (fun v => mc_ev X 65 15 ls (v :: st) G)) ∧
  (∀ (v1 v2 : Value) (x : Nat) (st : List Value) (G : mc_H), mc_ev X 65 15 [.ref x, v1, v2] st G = mc_ev X 65 16 [.ref x, v1, v2] (.ref x :: st) G) ∧
  (∀ (r : Nat) (ls st : List Value) (G : mc_H), mc_ev X 65 16 ls (.ref r :: st) G = (mc_getf G r 7 0).bind (fun v => mc_ev X 65 19 ls (v :: st) G)) ∧
  (∀ (r : Nat) (ls st : List Value) (G : mc_H), mc_ev X 65 19 ls (.ref r :: st) G = (mc_getf G r 4 1).bind (fun v => mc_ev X 65 22 ls (v :: st) G)) ∧
  (∀ (a0 : Nat) (r : Nat) (ls st : List Value) (G : mc_H), st.length ≤ 4 → mc_cls G r = some 1 → mc_ev X 65 22 ls (.ref a0 :: .ref r :: st) G = (mc_ev X 7 0 [.ref r, .ref a0] [] G).bind (fun q => mc_ev X 65 25 ls (q.1.toList ++ st) q.2)) ∧
  (∀ (v1 v2 : Value) (x : Nat) (st : List Value) (G : mc_H), mc_ev X 65 25 [.ref x, v1, v2] st G = mc_ev X 65 26 [.ref x, v1, v2] (.ref x :: st) G) ∧
  (∀ (r : Nat) (ls st : List Value) (G : mc_H), mc_ev X 65 26 ls (.ref r :: st) G = (mc_getf G r 7 0).bind (fun v => mc_ev X 65 29 ls (v :: st) G)) ∧
  (∀ (v0 v2 : Value) (x : Int32) (st : List Value) (G : mc_H), mc_ev X 65 29 [v0, .int x, v2] st G = mc_ev X 65 30 [v0, .int x, v2] (.int x :: st) G) ∧
  (∀ (a0 : Int32) (r : Nat) (ls st : List Value) (G : mc_H), st.length ≤ 4 → mc_cls G r = some 4 → mc_ev X 65 30 ls (.int a0 :: .ref r :: st) G = (mc_ev X 40 0 [.ref r, .int a0, .null, .null, .null] [] G).bind (fun q => mc_ev X 65 33 ls (q.1.toList ++ st) q.2)) ∧
  (∀ (v0 v1 v2 : Value) (x : Int32) (st : List Value) (G : mc_H), mc_ev X 65 33 [v0, v1, v2] (.int x :: st) G = mc_ev X 65 34 [v0, v1, .int x] st G) ∧
  (∀ (v1 v2 : Value) (x : Nat) (st : List Value) (G : mc_H), mc_ev X 65 34 [.ref x, v1, v2] st G = mc_ev X 65 35 [.ref x, v1, v2] (.ref x :: st) G) ∧
  (∀ (r : Nat) (ls st : List Value) (G : mc_H), mc_ev X 65 35 ls (.ref r :: st) G = (mc_getf G r 7 0).bind (fun v => mc_ev X 65 38 ls (v :: st) G)) ∧
  (∀ (v0 v2 : Value) (x : Int32) (st : List Value) (G : mc_H), mc_ev X 65 38 [v0, .int x, v2] st G = mc_ev X 65 39 [v0, .int x, v2] (.int x :: st) G) ∧
  (∀ (a0 : Int32) (r : Nat) (ls st : List Value) (G : mc_H), st.length ≤ 4 → mc_cls G r = some 4 → mc_ev X 65 39 ls (.int a0 :: .ref r :: st) G = (mc_ev X 42 0 [.ref r, .int a0] [] G).bind (fun q => mc_ev X 65 42 ls (q.1.toList ++ st) q.2)) ∧
  (∀ (v0 v1 : Value) (x : Int32) (st : List Value) (G : mc_H), mc_ev X 65 42 [v0, v1, .int x] st G = mc_ev X 65 43 [v0, v1, .int x] (.int x :: st) G) ∧
  (∀ (v : Int32) (ls : List Value) (G : mc_H), mc_ev X 65 43 ls [.int v] G = some (some (.int v), G)) := ⟨fun v1 v2 x st G => ev_aload_n rfl rfl,
  fun v0 v2 x st G => ev_iload_n rfl rfl,
  fun a0 r ls st G hr hG => ev_virt (As := [.int a0]) rfl rfl rfl rfl rfl rfl hr hG,
  fun x ls st G => ev_br rfl rfl,
  fun ls st G => ev_ldc rfl rfl,
  fun v ls G => ev_ireturn rfl rfl,
  fun v1 v2 x st G => ev_aload_n rfl rfl,
  fun r ls st G => ev_getfield rfl,
  fun v1 v2 x st G => ev_aload_n rfl rfl,
  fun r ls st G => ev_getfield rfl,
  fun r ls st G => ev_getfield rfl,
  fun a0 r ls st G hr hG => ev_virt (As := [.ref a0]) rfl rfl rfl rfl rfl rfl hr hG,
  fun v1 v2 x st G => ev_aload_n rfl rfl,
  fun r ls st G => ev_getfield rfl,
  fun v0 v2 x st G => ev_iload_n rfl rfl,
  fun a0 r ls st G hr hG => ev_virt (As := [.int a0]) rfl rfl rfl rfl rfl rfl hr hG,
  fun v0 v1 v2 x st G => ev_istore_n (X := X) (k := 65) (pc := 33) (ls := [v0, v1, v2]) (st := st) (G := G) (j := 2) (x := x) rfl (Nat.le_of_ble_eq_true rfl),
  fun v1 v2 x st G => ev_aload_n rfl rfl,
  fun r ls st G => ev_getfield rfl,
  fun v0 v2 x st G => ev_iload_n rfl rfl,
  fun a0 r ls st G hr hG => ev_virt (As := [.int a0]) rfl rfl rfl rfl rfl rfl hr hG,
  fun v0 v1 x st G => ev_iload_n rfl rfl,
  fun v ls G => ev_ireturn rfl rfl⟩
theorem e_66 {X : mc_X} : (∀ (v1 v2 : Value) (x : Nat) (st : List Value) (G : mc_H), mc_ev X 66 0 [.ref x, v1, v2] st G = mc_ev X 66 1 [.ref x, v1, v2] (.ref x :: st) G) ∧
  (∀ (v0 v2 : Value) (x : Int32) (st : List Value) (G : mc_H), mc_ev X 66 1 [v0, .int x, v2] st G = mc_ev X 66 2 [v0, .int x, v2] (.int x :: st) G) ∧
  (∀ (a0 : Int32) (r : Nat) (ls st : List Value) (G : mc_H), st.length ≤ 4 → mc_cls G r = some 7 → mc_ev X 66 2 ls (.int a0 :: .ref r :: st) G = (mc_ev X 96 0 [.ref r, .int a0] [] G).bind (fun q => mc_ev X 66 5 ls (q.1.toList ++ st) q.2)) ∧
  (∀ (x : Int32) (ls st : List Value) (G : mc_H), mc_ev X 66 5 ls (.int x :: st) G = if x = 0 then mc_ev X 66 11 ls st G else mc_ev X 66 8 ls st G) ∧
  (∀ (ls st : List Value) (G : mc_H), mc_ev X 66 8 ls st G = mc_ev X 66 10 ls (.int (-1000000) :: st) G) ∧
  (∀ (v : Int32) (ls : List Value) (G : mc_H), mc_ev X 66 10 ls [.int v] G = some (some (.int v), G)) ∧
  (∀ (v1 v2 : Value) (x : Nat) (st : List Value) (G : mc_H), mc_ev X 66 11 [.ref x, v1, v2] st G = mc_ev X 66 12 [.ref x, v1, v2] (.ref x :: st) G) ∧
  (∀ (r : Nat) (ls st : List Value) (G : mc_H), st.length ≤ 4 → mc_cls G r = some 7 → mc_ev X 66 12 ls (.ref r :: st) G = (mc_ev X 109 0 [.ref r] [] G).bind (fun q => mc_ev X 66 15 ls (q.1.toList ++ st) q.2)) ∧
  (∀ (v1 v2 : Value) (x : Nat) (st : List Value) (G : mc_H), mc_ev X 66 15 [.ref x, v1, v2] st G = mc_ev X 66 16 [.ref x, v1, v2] (.ref x :: st) G) ∧
  (∀ (r : Nat) (ls st : List Value) (G : mc_H), mc_ev X 66 16 ls (.ref r :: st) G = (mc_getf G r 7 0).bind (fun v => mc_ev X 66 19 ls (v :: st) G)) ∧
  (∀ (r : Nat) (ls st : List Value) (G : mc_H), st.length ≤ 4 → mc_cls G r = some 4 → mc_ev X 66 19 ls (.ref r :: st) G = (mc_ev X 38 0 [.ref r] [] G).bind (fun q => mc_ev X 66 22 ls (q.1.toList ++ st) q.2)) ∧
  (∀ (v0 v1 v2 : Value) (x : Int32) (st : List Value) (G : mc_H), mc_ev X 66 22 [v0, v1, v2] (.int x :: st) G = mc_ev X 66 23 [v0, v1, .int x] st G) ∧
  (∀ (v1 v2 : Value) (x : Nat) (st : List Value) (G : mc_H), mc_ev X 66 23 [.ref x, v1, v2] st G = mc_ev X 66 24 [.ref x, v1, v2] (.ref x :: st) G) ∧
  (∀ (r : Nat) (ls st : List Value) (G : mc_H), mc_ev X 66 24 ls (.ref r :: st) G = (mc_getf G r 7 0).bind (fun v => mc_ev X 66 27 ls (v :: st) G)) ∧
  (∀ (v0 v2 : Value) (x : Int32) (st : List Value) (G : mc_H), mc_ev X 66 27 [v0, .int x, v2] st G = mc_ev X 66 28 [v0, .int x, v2] (.int x :: st) G) ∧
  (∀ (a0 : Int32) (r : Nat) (ls st : List Value) (G : mc_H), st.length ≤ 4 → mc_cls G r = some 4 → mc_ev X 66 28 ls (.int a0 :: .ref r :: st) G = (mc_ev X 42 0 [.ref r, .int a0] [] G).bind (fun q => mc_ev X 66 31 ls (q.1.toList ++ st) q.2)) ∧
  (∀ (v1 v2 : Value) (x : Nat) (st : List Value) (G : mc_H), mc_ev X 66 31 [.ref x, v1, v2] st G = mc_ev X 66 32 [.ref x, v1, v2] (.ref x :: st) G) ∧
  (∀ (r : Nat) (ls st : List Value) (G : mc_H), mc_ev X 66 32 ls (.ref r :: st) G = (mc_getf G r 7 0).bind (fun v => mc_ev X 66 35 ls (v :: st) G)) ∧
  (∀ (v0 v2 : Value) (x : Int32) (st : List Value) (G : mc_H), mc_ev X 66 35 [v0, .int x, v2] st G = mc_ev X 66 36 [v0, .int x, v2] (.int x :: st) G) ∧
  (∀ (a0 : Int32) (r : Nat) (ls st : List Value) (G : mc_H), st.length ≤ 4 → mc_cls G r = some 4 → mc_ev X 66 36 ls (.int a0 :: .ref r :: st) G = (mc_ev X 43 0 [.ref r, .int a0, .null] [] G).bind (fun q => mc_ev X 66 39 ls (q.1.toList ++ st) q.2)) ∧
  (∀ (v1 v2 : Value) (x : Nat) (st : List Value) (G : mc_H), mc_ev X 66 39 [.ref x, v1, v2] st G = mc_ev X 66 40 [.ref x, v1, v2] (.ref x :: st) G) ∧
  (∀ (r : Nat) (ls st : List Value) (G : mc_H), mc_ev X 66 40 ls (.ref r :: st) G = (mc_getf G r 7 0).bind (fun v => mc_ev X 66 43 ls (v :: st) G)) ∧
  (∀ (r : Nat) (ls st : List Value) (G : mc_H), st.length ≤ 4 → mc_cls G r = some 4 → mc_ev X 66 43 ls (.ref r :: st) G = (mc_ev X 38 0 [.ref r] [] G).bind (fun q => mc_ev X 66 46 ls (q.1.toList ++ st) q.2)) ∧
  (∀ (v0 v1 : Value) (x : Int32) (st : List Value) (G : mc_H), mc_ev X 66 46 [v0, v1, .int x] st G = mc_ev X 66 47 [v0, v1, .int x] (.int x :: st) G) ∧
  (∀ (x y : Int32) (ls st : List Value) (G : mc_H), mc_ev X 66 47 ls (.int y :: .int x :: st) G = mc_ev X 66 48 ls (.int (x - y) :: st) G) ∧
  (∀ (v : Int32) (ls : List Value) (G : mc_H), mc_ev X 66 48 ls [.int v] G = some (some (.int v), G)) := ⟨fun v1 v2 x st G => ev_aload_n rfl rfl,
  fun v0 v2 x st G => ev_iload_n rfl rfl,
  fun a0 r ls st G hr hG => ev_virt (As := [.int a0]) rfl rfl rfl rfl rfl rfl hr hG,
  fun x ls st G => ev_br rfl rfl,
  fun ls st G => ev_ldc rfl rfl,
  fun v ls G => ev_ireturn rfl rfl,
  fun v1 v2 x st G => ev_aload_n rfl rfl,
  fun r ls st G hr hG => ev_virt (As := []) rfl rfl rfl rfl rfl rfl hr hG,
  fun v1 v2 x st G => ev_aload_n rfl rfl,
  fun r ls st G => ev_getfield rfl,
  fun r ls st G hr hG => ev_virt (As := []) rfl rfl rfl rfl rfl rfl hr hG,
  fun v0 v1 v2 x st G => ev_istore_n (X := X) (k := 66) (pc := 22) (ls := [v0, v1, v2]) (st := st) (G := G) (j := 2) (x := x) rfl (Nat.le_of_ble_eq_true rfl),
  fun v1 v2 x st G => ev_aload_n rfl rfl,
  fun r ls st G => ev_getfield rfl,
  fun v0 v2 x st G => ev_iload_n rfl rfl,
  fun a0 r ls st G hr hG => ev_virt (As := [.int a0]) rfl rfl rfl rfl rfl rfl hr hG,
  fun v1 v2 x st G => ev_aload_n rfl rfl,
  fun r ls st G => ev_getfield rfl,
  fun v0 v2 x st G => ev_iload_n rfl rfl,
  fun a0 r ls st G hr hG => ev_virt (As := [.int a0]) rfl rfl rfl rfl rfl rfl hr hG,
  fun v1 v2 x st G => ev_aload_n rfl rfl,
  fun r ls st G => ev_getfield rfl,
  fun r ls st G hr hG => ev_virt (As := []) rfl rfl rfl rfl rfl rfl hr hG,
  fun v0 v1 x st G => ev_iload_n rfl rfl,
  fun x y ls st G => ev_isub rfl,
  fun v ls G => ev_ireturn rfl rfl⟩
theorem e_67 {X : mc_X} : (∀ (v1 v2 v3 : Value) (x : Nat) (st : List Value) (G : mc_H), mc_ev X 67 0 [.ref x, v1, v2, v3] st G = mc_ev X 67 1 [.ref x, v1, v2, v3] (.ref x :: st) G) ∧
  (∀ (v0 v2 v3 : Value) (x : Int32) (st : List Value) (G : mc_H), mc_ev X 67 1 [v0, .int x, v2, v3] st G = mc_ev X 67 2 [v0, .int x, v2, v3] (.int x :: st) G) ∧
  (∀ (a0 : Int32) (r : Nat) (ls st : List Value) (G : mc_H), st.length ≤ 4 → mc_cls G r = some 7 → mc_ev X 67 2 ls (.int a0 :: .ref r :: st) G = (mc_ev X 97 0 [.ref r, .int a0] [] G).bind (fun q => mc_ev X 67 5 ls (q.1.toList ++ st) q.2)) ∧
  (∀ (x : Int32) (ls st : List Value) (G : mc_H), mc_ev X 67 5 ls (.int x :: st) G = if x = 0 then mc_ev X 67 8 ls st G else mc_ev X 67 15 ls st G) ∧
  (∀ (v0 v1 v3 : Value) (x : Int32) (st : List Value) (G : mc_H), mc_ev X 67 8 [v0, v1, .int x, v3] st G = mc_ev X 67 9 [v0, v1, .int x, v3] (.int x :: st) G) ∧
  (∀ (a0 : Int32) (ls st : List Value) (G : mc_H), st.length ≤ 4 → mc_ev X 67 9 ls (.int a0 :: st) G = (mc_ev X 100 0 [.int a0] [] G).bind (fun q => mc_ev X 67 12 ls (q.1.toList ++ st) q.2)) ∧
  (∀ (x : Int32) (ls st : List Value) (G : mc_H), mc_ev X 67 12 ls (.int x :: st) G = if x = 0 then mc_ev X 67 18 ls st G else mc_ev X 67 15 ls st G) ∧
  (∀ (ls st : List Value) (G : mc_H), mc_ev X 67 15 ls st G = mc_ev X 67 17 ls (.int (-1000000) :: st) G) ∧
  (∀ (v : Int32) (ls : List Value) (G : mc_H), mc_ev X 67 17 ls [.int v] G = some (some (.int v), G)) ∧
  (∀ (v1 v2 v3 : Value) (x : Nat) (st : List Value) (G : mc_H), mc_ev X 67 18 [.ref x, v1, v2, v3] st G = mc_ev X 67 19 [.ref x, v1, v2, v3] (.ref x :: st) G) ∧
  (∀ (r : Nat) (ls st : List Value) (G : mc_H), st.length ≤ 4 → mc_cls G r = some 7 → mc_ev X 67 19 ls (.ref r :: st) G = (mc_ev X 109 0 [.ref r] [] G).bind (fun q => mc_ev X 67 22 ls (q.1.toList ++ st) q.2)) ∧
  (∀ (v1 v2 v3 : Value) (x : Nat) (st : List Value) (G : mc_H), mc_ev X 67 22 [.ref x, v1, v2, v3] st G = mc_ev X 67 23 [.ref x, v1, v2, v3] (.ref x :: st) G) ∧
  (∀ (r : Nat) (ls st : List Value) (G : mc_H), mc_ev X 67 23 ls (.ref r :: st) G = (mc_getf G r 7 0).bind (fun v => mc_ev X 67 26 ls (v :: st) G)) ∧
  (∀ (r : Nat) (ls st : List Value) (G : mc_H), mc_ev X 67 26 ls (.ref r :: st) G = (mc_getf G r 4 1).bind (fun v => mc_ev X 67 29 ls (v :: st) G)) ∧
  (∀ (r : Nat) (ls st : List Value) (G : mc_H), mc_ev X 67 29 ls (.ref r :: st) G = (mc_getf G r 5 4).bind (fun v => mc_ev X 67 32 ls (v :: st) G)) ∧
  (∀ (v0 v2 v3 : Value) (x : Int32) (st : List Value) (G : mc_H), mc_ev X 67 32 [v0, .int x, v2, v3] st G = mc_ev X 67 33 [v0, .int x, v2, v3] (.int x :: st) G) ∧
  (∀ (i : Int32) (r : Value) (ls st : List Value) (G : mc_H), mc_ev X 67 33 ls (.int i :: r :: st) G = (mc_getA X G 0 r i).bind (fun x => mc_ev X 67 34 ls (.int x :: st) G)) ∧
  (∀ (v0 v1 v2 v3 : Value) (x : Int32) (st : List Value) (G : mc_H), mc_ev X 67 34 [v0, v1, v2, v3] (.int x :: st) G = mc_ev X 67 35 [v0, v1, v2, .int x] st G) ∧
  (∀ (v1 v2 v3 : Value) (x : Nat) (st : List Value) (G : mc_H), mc_ev X 67 35 [.ref x, v1, v2, v3] st G = mc_ev X 67 36 [.ref x, v1, v2, v3] (.ref x :: st) G) ∧
  (∀ (r : Nat) (ls st : List Value) (G : mc_H), mc_ev X 67 36 ls (.ref r :: st) G = (mc_getf G r 7 0).bind (fun v => mc_ev X 67 39 ls (v :: st) G)) ∧
  (∀ (r : Nat) (ls st : List Value) (G : mc_H), mc_ev X 67 39 ls (.ref r :: st) G = (mc_getf G r 4 1).bind (fun v => mc_ev X 67 42 ls (v :: st) G)) ∧
  (∀ (r : Nat) (ls st : List Value) (G : mc_H), mc_ev X 67 42 ls (.ref r :: st) G = (mc_getf G r 5 4).bind (fun v => mc_ev X 67 45 ls (v :: st) G)) ∧
  (∀ (v0 v2 v3 : Value) (x : Int32) (st : List Value) (G : mc_H), mc_ev X 67 45 [v0, .int x, v2, v3] st G = mc_ev X 67 46 [v0, .int x, v2, v3] (.int x :: st) G) ∧
  (∀ (v0 v1 v3 : Value) (x : Int32) (st : List Value) (G : mc_H), mc_ev X 67 46 [v0, v1, .int x, v3] st G = mc_ev X 67 47 [v0, v1, .int x, v3] (.int x :: st) G) ∧
  (∀ (x i : Int32) (r : Nat) (ls st : List Value) (G : mc_H), mc_ev X 67 47 ls (.int x :: .int i :: .ref r :: st) G = (mc_setA G 0 r i x).bind (fun G' => mc_ev X 67 48 ls st G')) ∧
  (∀ (v0 v1 v2 : Value) (x : Int32) (st : List Value) (G : mc_H), mc_ev X 67 48 [v0, v1, v2, .int x] st G = mc_ev X 67 49 [v0, v1, v2, .int x] (.int x :: st) G) ∧
  (∀ (v : Int32) (ls : List Value) (G : mc_H), mc_ev X 67 49 ls [.int v] G = some (some (.int v), G)) := ⟨fun v1 v2 v3 x st G => ev_aload_n rfl rfl,
  fun v0 v2 v3 x st G => ev_iload_n rfl rfl,
  fun a0 r ls st G hr hG => ev_virt (As := [.int a0]) rfl rfl rfl rfl rfl rfl hr hG,
  fun x ls st G => ev_br rfl rfl,
  fun v0 v1 v3 x st G => ev_iload_n rfl rfl,
  fun a0 ls st G hr => ev_stat (As := [.int a0]) rfl (by decide) rfl rfl rfl rfl hr,
  fun x ls st G => ev_br rfl rfl,
  fun ls st G => ev_ldc rfl rfl,
  fun v ls G => ev_ireturn rfl rfl,
  fun v1 v2 v3 x st G => ev_aload_n rfl rfl,
  fun r ls st G hr hG => ev_virt (As := []) rfl rfl rfl rfl rfl rfl hr hG,
  fun v1 v2 v3 x st G => ev_aload_n rfl rfl,
  fun r ls st G => ev_getfield rfl,
  fun r ls st G => ev_getfield rfl,
  fun r ls st G => ev_getfield rfl,
  fun v0 v2 v3 x st G => ev_iload_n rfl rfl,
  fun i r ls st G => ev_iaload rfl,
  fun v0 v1 v2 v3 x st G => ev_istore_n (X := X) (k := 67) (pc := 34) (ls := [v0, v1, v2, v3]) (st := st) (G := G) (j := 3) (x := x) rfl (Nat.le_of_ble_eq_true rfl),
  fun v1 v2 v3 x st G => ev_aload_n rfl rfl,
  fun r ls st G => ev_getfield rfl,
  fun r ls st G => ev_getfield rfl,
  fun r ls st G => ev_getfield rfl,
  fun v0 v2 v3 x st G => ev_iload_n rfl rfl,
  fun v0 v1 v3 x st G => ev_iload_n rfl rfl,
  fun x i r ls st G => ev_iastore rfl,
  fun v0 v1 v2 x st G => ev_iload_n rfl rfl,
  fun v ls G => ev_ireturn rfl rfl⟩
theorem e_68 {X : mc_X} : (∀ (v1 v2 : Value) (x : Nat) (st : List Value) (G : mc_H), mc_ev X 68 0 [.ref x, v1, v2] st G = mc_ev X 68 1 [.ref x, v1, v2] (.ref x :: st) G) ∧
  (∀ (v0 v2 : Value) (x : Int32) (st : List Value) (G : mc_H), mc_ev X 68 1 [v0, .int x, v2] st G = mc_ev X 68 2 [v0, .int x, v2] (.int x :: st) G) ∧
  (∀ (a0 : Int32) (r : Nat) (ls st : List Value) (G : mc_H), st.length ≤ 4 → mc_cls G r = some 7 → mc_ev X 68 2 ls (.int a0 :: .ref r :: st) G = (mc_ev X 99 0 [.ref r, .int a0] [] G).bind (fun q => mc_ev X 68 5 ls (q.1.toList ++ st) q.2)) ∧
  (∀ (x : Int32) (ls st : List Value) (G : mc_H), mc_ev X 68 5 ls (.int x :: st) G = if x = 0 then mc_ev X 68 10 ls st G else mc_ev X 68 8 ls st G) ∧
  (∀ (ls st : List Value) (G : mc_H), mc_ev X 68 8 ls st G = mc_ev X 68 9 ls (.int (-1) :: st) G) ∧
  (∀ (v : Int32) (ls : List Value) (G : mc_H), mc_ev X 68 9 ls [.int v] G = some (some (.int v), G)) ∧
  (∀ (v1 v2 : Value) (x : Nat) (st : List Value) (G : mc_H), mc_ev X 68 10 [.ref x, v1, v2] st G = mc_ev X 68 11 [.ref x, v1, v2] (.ref x :: st) G) ∧
  (∀ (r : Nat) (ls st : List Value) (G : mc_H), mc_ev X 68 11 ls (.ref r :: st) G = (mc_getf G r 7 1).bind (fun v => mc_ev X 68 14 ls (v :: st) G)) ∧
  (∀ (v1 v2 : Value) (x : Nat) (st : List Value) (G : mc_H), mc_ev X 68 14 [.ref x, v1, v2] st G = mc_ev X 68 15 [.ref x, v1, v2] (.ref x :: st) G) ∧
  (∀ (r : Nat) (ls st : List Value) (G : mc_H), mc_ev X 68 15 ls (.ref r :: st) G = (mc_getf G r 7 0).bind (fun v => mc_ev X 68 18 ls (v :: st) G)) ∧
  (∀ (r : Nat) (ls st : List Value) (G : mc_H), mc_ev X 68 18 ls (.ref r :: st) G = (mc_getf G r 4 1).bind (fun v => mc_ev X 68 21 ls (v :: st) G)) ∧
  (∀ (a0 : Nat) (r : Nat) (ls st : List Value) (G : mc_H), st.length ≤ 4 → mc_cls G r = some 1 → mc_ev X 68 21 ls (.ref a0 :: .ref r :: st) G = (mc_ev X 7 0 [.ref r, .ref a0] [] G).bind (fun q => mc_ev X 68 24 ls (q.1.toList ++ st) q.2)) ∧
  (∀ (v1 v2 : Value) (x : Nat) (st : List Value) (G : mc_H), mc_ev X 68 24 [.ref x, v1, v2] st G = mc_ev X 68 25 [.ref x, v1, v2] (.ref x :: st) G) ∧
  (∀ (r : Nat) (ls st : List Value) (G : mc_H), mc_ev X 68 25 ls (.ref r :: st) G = (mc_getf G r 7 0).bind (fun v => mc_ev X 68 28 ls (v :: st) G)) ∧
  (∀ (r : Nat) (ls st : List Value) (G : mc_H), st.length ≤ 4 → mc_cls G r = some 4 → mc_ev X 68 28 ls (.ref r :: st) G = (mc_ev X 32 0 [.ref r, .null, .null] [] G).bind (fun q => mc_ev X 68 31 ls (q.1.toList ++ st) q.2)) ∧
  (∀ (v0 v1 v2 : Value) (x : Int32) (st : List Value) (G : mc_H), mc_ev X 68 31 [v0, v1, v2] (.int x :: st) G = mc_ev X 68 32 [v0, v1, .int x] st G) ∧
  (∀ (v1 v2 : Value) (x : Nat) (st : List Value) (G : mc_H), mc_ev X 68 32 [.ref x, v1, v2] st G = mc_ev X 68 33 [.ref x, v1, v2] (.ref x :: st) G) ∧
  (∀ (r : Nat) (ls st : List Value) (G : mc_H), mc_ev X 68 33 ls (.ref r :: st) G = (mc_getf G r 7 0).bind (fun v => mc_ev X 68 36 ls (v :: st) G)) ∧
  (∀ (r : Nat) (ls st : List Value) (G : mc_H), mc_ev X 68 36 ls (.ref r :: st) G = (mc_getf G r 4 1).bind (fun v => mc_ev X 68 39 ls (v :: st) G)) ∧
  (∀ (v1 v2 : Value) (x : Nat) (st : List Value) (G : mc_H), mc_ev X 68 39 [.ref x, v1, v2] st G = mc_ev X 68 40 [.ref x, v1, v2] (.ref x :: st) G) ∧
  (∀ (r : Nat) (ls st : List Value) (G : mc_H), mc_ev X 68 40 ls (.ref r :: st) G = (mc_getf G r 7 0).bind (fun v => mc_ev X 68 43 ls (v :: st) G)) ∧
  (∀ (r : Nat) (ls st : List Value) (G : mc_H), mc_ev X 68 43 ls (.ref r :: st) G = (mc_getf G r 4 1).bind (fun v => mc_ev X 68 46 ls (v :: st) G)) ∧
  (∀ (r : Nat) (ls st : List Value) (G : mc_H), mc_ev X 68 46 ls (.ref r :: st) G = (mc_getf G r 5 0).bind (fun v => mc_ev X 68 49 ls (v :: st) G)) ∧
  (∀ (v0 v1 : Value) (x : Int32) (st : List Value) (G : mc_H), mc_ev X 68 49 [v0, v1, .int x] st G = mc_ev X 68 50 [v0, v1, .int x] (.int x :: st) G) ∧
  (∀ (x y : Int32) (ls st : List Value) (G : mc_H), mc_ev X 68 50 ls (.int y :: .int x :: st) G = mc_ev X 68 51 ls (.int (x &&& y) :: st) G) ∧
  (∀ (v0 v2 : Value) (x : Int32) (st : List Value) (G : mc_H), mc_ev X 68 51 [v0, .int x, v2] st G = mc_ev X 68 52 [v0, .int x, v2] (.int x :: st) G) ∧
  (∀ (v0 v1 : Value) (x : Int32) (st : List Value) (G : mc_H), mc_ev X 68 52 [v0, v1, .int x] st G = mc_ev X 68 53 [v0, v1, .int x] (.int x :: st) G) ∧
  (∀ (ls st : List Value) (G : mc_H), mc_ev X 68 53 ls st G = mc_ev X 68 54 ls (.int (-1) :: st) G) ∧
  (∀ (x y : Int32) (ls st : List Value) (G : mc_H), mc_ev X 68 54 ls (.int y :: .int x :: st) G = mc_ev X 68 55 ls (.int (x ^^^ y) :: st) G) ∧
  (∀ (x y : Int32) (ls st : List Value) (G : mc_H), mc_ev X 68 55 ls (.int y :: .int x :: st) G = mc_ev X 68 56 ls (.int (x &&& y) :: st) G) ∧
  (∀ (x y : Int32) (ls st : List Value) (G : mc_H), mc_ev X 68 56 ls (.int y :: .int x :: st) G = mc_ev X 68 57 ls (.int (x ||| y) :: st) G) ∧
  (∀ (v : Value) (r : Nat) (ls st : List Value) (G : mc_H), mc_ev X 68 57 ls (v :: .ref r :: st) G = (mc_setf G r 5 0 v).bind (fun G' => mc_ev X 68 60 ls st G')) ∧
  (∀ (v1 v2 : Value) (x : Nat) (st : List Value) (G : mc_H), mc_ev X 68 60 [.ref x, v1, v2] st G = mc_ev X 68 61 [.ref x, v1, v2] (.ref x :: st) G) ∧
  (∀ (r : Nat) (ls st : List Value) (G : mc_H), mc_ev X 68 61 ls (.ref r :: st) G = (mc_getf G r 7 0).bind (fun v => mc_ev X 68 64 ls (v :: st) G)) ∧
  (∀ (r : Nat) (ls st : List Value) (G : mc_H), st.length ≤ 4 → mc_cls G r = some 4 → mc_ev X 68 64 ls (.ref r :: st) G = (mc_ev X 38 0 [.ref r] [] G).bind (fun q => mc_ev X 68 67 ls (q.1.toList ++ st) q.2)) ∧
  (∀ (v : Int32) (ls : List Value) (G : mc_H), mc_ev X 68 67 ls [.int v] G = some (some (.int v), G)) := ⟨fun v1 v2 x st G => ev_aload_n rfl rfl,
  fun v0 v2 x st G => ev_iload_n rfl rfl,
  fun a0 r ls st G hr hG => ev_virt (As := [.int a0]) rfl rfl rfl rfl rfl rfl hr hG,
  fun x ls st G => ev_br rfl rfl,
  fun ls st G => ev_iconst rfl rfl,
  fun v ls G => ev_ireturn rfl rfl,
  fun v1 v2 x st G => ev_aload_n rfl rfl,
  fun r ls st G => ev_getfield rfl,
  fun v1 v2 x st G => ev_aload_n rfl rfl,
  fun r ls st G => ev_getfield rfl,
  fun r ls st G => ev_getfield rfl,
  fun a0 r ls st G hr hG => ev_virt (As := [.ref a0]) rfl rfl rfl rfl rfl rfl hr hG,
  fun v1 v2 x st G => ev_aload_n rfl rfl,
  fun r ls st G => ev_getfield rfl,
  fun r ls st G hr hG => ev_virt (As := []) rfl rfl rfl rfl rfl rfl hr hG,
  fun v0 v1 v2 x st G => ev_istore_n (X := X) (k := 68) (pc := 31) (ls := [v0, v1, v2]) (st := st) (G := G) (j := 2) (x := x) rfl (Nat.le_of_ble_eq_true rfl),
  fun v1 v2 x st G => ev_aload_n rfl rfl,
  fun r ls st G => ev_getfield rfl,
  fun r ls st G => ev_getfield rfl,
  fun v1 v2 x st G => ev_aload_n rfl rfl,
  fun r ls st G => ev_getfield rfl,
  fun r ls st G => ev_getfield rfl,
  fun r ls st G => ev_getfield rfl,
  fun v0 v1 x st G => ev_iload_n rfl rfl,
  fun x y ls st G => ev_iand rfl,
  fun v0 v2 x st G => ev_iload_n rfl rfl,
  fun v0 v1 x st G => ev_iload_n rfl rfl,
  fun ls st G => ev_iconst rfl rfl,
  fun x y ls st G => ev_ixor rfl,
  fun x y ls st G => ev_iand rfl,
  fun x y ls st G => ev_ior rfl,
  fun v r ls st G => ev_putfield rfl,
  fun v1 v2 x st G => ev_aload_n rfl rfl,
  fun r ls st G => ev_getfield rfl,
  fun r ls st G hr hG => ev_virt (As := []) rfl rfl rfl rfl rfl rfl hr hG,
  fun v ls G => ev_ireturn rfl rfl⟩
theorem h_69_16 {X : mc_X} : ∀ (v0 v2 : Value) (x : Int32) (st : List Value) (G : mc_H), mc_ev X 69 16 [v0, .int x, v2] st G = mc_ev X 69 17 [v0, .int x, v2] (.int x :: st) G := fun v0 v2 x st G => ev_iload_n rfl rfl
theorem e_69 {X : mc_X} : (∀ (v1 v2 : Value) (x : Nat) (st : List Value) (G : mc_H), mc_ev X 69 0 [.ref x, v1, v2] st G = mc_ev X 69 1 [.ref x, v1, v2] (.ref x :: st) G) ∧
  (∀ (r : Nat) (ls st : List Value) (G : mc_H), mc_ev X 69 1 ls (.ref r :: st) G = (mc_getf G r 7 1).bind (fun v => mc_ev X 69 4 ls (v :: st) G)) ∧
  (∀ (v1 v2 : Value) (x : Nat) (st : List Value) (G : mc_H), mc_ev X 69 4 [.ref x, v1, v2] st G = mc_ev X 69 5 [.ref x, v1, v2] (.ref x :: st) G) ∧
  (∀ (r : Nat) (ls st : List Value) (G : mc_H), mc_ev X 69 5 ls (.ref r :: st) G = (mc_getf G r 7 0).bind (fun v => mc_ev X 69 8 ls (v :: st) G)) ∧
  (∀ (r : Nat) (ls st : List Value) (G : mc_H), mc_ev X 69 8 ls (.ref r :: st) G = (mc_getf G r 4 1).bind (fun v => mc_ev X 69 11 ls (v :: st) G)) ∧
  (∀ (a0 : Nat) (r : Nat) (ls st : List Value) (G : mc_H), st.length ≤ 4 → mc_cls G r = some 1 → mc_ev X 69 11 ls (.ref a0 :: .ref r :: st) G = (mc_ev X 7 0 [.ref r, .ref a0] [] G).bind (fun q => mc_ev X 69 14 ls (q.1.toList ++ st) q.2)) ∧
  (∀ (ls st : List Value) (G : mc_H), mc_ev X 69 14 ls st G = mc_ev X 69 15 ls (.int 0 :: st) G) ∧
  (∀ (v0 v1 v2 : Value) (x : Int32) (st : List Value) (G : mc_H), mc_ev X 69 15 [v0, v1, v2] (.int x :: st) G = mc_ev X 69 16 [v0, .int x, v2] st G) ∧
  (∀ (ls st : List Value) (G : mc_H), mc_ev X 69 17 ls st G = mc_ev X 69 20 ls (.int 4096 :: st) G) ∧
  (∀ (x y : Int32) (ls st : List Value) (G : mc_H), mc_ev X 69 20 ls (.int y :: .int x :: st) G = if x < y then mc_ev X 69 23 ls st G else mc_ev X 69 52 ls st G) ∧
  (∀ (v1 v2 : Value) (x : Nat) (st : List Value) (G : mc_H), mc_ev X 69 23 [.ref x, v1, v2] st G = mc_ev X 69 24 [.ref x, v1, v2] (.ref x :: st) G) ∧
  (∀ (r : Nat) (ls st : List Value) (G : mc_H), mc_ev X 69 24 ls (.ref r :: st) G = (mc_getf G r 7 0).bind (fun v => mc_ev X 69 27 ls (v :: st) G)) ∧
  (∀ (r : Nat) (ls st : List Value) (G : mc_H), st.length ≤ 4 → mc_cls G r = some 4 → mc_ev X 69 27 ls (.ref r :: st) G = (mc_ev X 41 0 [.ref r, .null] [] G).bind (fun q => mc_ev X 69 30 ls (q.1.toList ++ st) q.2)) ∧
  (∀ (v0 v1 v2 : Value) (x : Int32) (st : List Value) (G : mc_H), mc_ev X 69 30 [v0, v1, v2] (.int x :: st) G = mc_ev X 69 31 [v0, v1, .int x] st G) ∧
  (∀ (v0 v1 : Value) (x : Int32) (st : List Value) (G : mc_H), mc_ev X 69 31 [v0, v1, .int x] st G = mc_ev X 69 32 [v0, v1, .int x] (.int x :: st) G) ∧
  (∀ (x : Int32) (ls st : List Value) (G : mc_H), mc_ev X 69 32 ls (.int x :: st) G = if x < 0 then mc_ev X 69 35 ls st G else mc_ev X 69 38 ls st G) ∧
  (∀ (ls st : List Value) (G : mc_H), mc_ev X 69 35 ls st G = mc_ev X 69 52 ls st G) ∧
  (∀ (v1 v2 : Value) (x : Nat) (st : List Value) (G : mc_H), mc_ev X 69 38 [.ref x, v1, v2] st G = mc_ev X 69 39 [.ref x, v1, v2] (.ref x :: st) G) ∧
  (∀ (r : Nat) (ls st : List Value) (G : mc_H), mc_ev X 69 39 ls (.ref r :: st) G = (mc_getf G r 7 0).bind (fun v => mc_ev X 69 42 ls (v :: st) G)) ∧
  (∀ (v0 v1 : Value) (x : Int32) (st : List Value) (G : mc_H), mc_ev X 69 42 [v0, v1, .int x] st G = mc_ev X 69 43 [v0, v1, .int x] (.int x :: st) G) ∧
  (∀ (a0 : Int32) (r : Nat) (ls st : List Value) (G : mc_H), st.length ≤ 4 → mc_cls G r = some 4 → mc_ev X 69 43 ls (.int a0 :: .ref r :: st) G = (mc_ev X 42 0 [.ref r, .int a0] [] G).bind (fun q => mc_ev X 69 46 ls (q.1.toList ++ st) q.2)) ∧
  (∀ (v0 v2 : Value) (x : Int32) (st : List Value) (G : mc_H), mc_ev X 69 46 [v0, .int x, v2] st G = mc_ev X 69 49 [v0, .int (x + 1), v2] st G) ∧
  (∀ (ls st : List Value) (G : mc_H), mc_ev X 69 49 ls st G = mc_ev X 69 16 ls st G) ∧
  (∀ (v0 v2 : Value) (x : Int32) (st : List Value) (G : mc_H), mc_ev X 69 52 [v0, .int x, v2] st G = mc_ev X 69 53 [v0, .int x, v2] (.int x :: st) G) ∧
  (∀ (v : Int32) (ls : List Value) (G : mc_H), mc_ev X 69 53 ls [.int v] G = some (some (.int v), G)) := ⟨fun v1 v2 x st G => ev_aload_n rfl rfl,
  fun r ls st G => ev_getfield rfl,
  fun v1 v2 x st G => ev_aload_n rfl rfl,
  fun r ls st G => ev_getfield rfl,
  fun r ls st G => ev_getfield rfl,
  fun a0 r ls st G hr hG => ev_virt (As := [.ref a0]) rfl rfl rfl rfl rfl rfl hr hG,
  fun ls st G => ev_iconst rfl rfl,
  fun v0 v1 v2 x st G => ev_istore_n (X := X) (k := 69) (pc := 15) (ls := [v0, v1, v2]) (st := st) (G := G) (j := 1) (x := x) rfl (Nat.le_of_ble_eq_true rfl),
  fun ls st G => ev_sipush rfl rfl,
  fun x y ls st G => ev_br rfl rfl,
  fun v1 v2 x st G => ev_aload_n rfl rfl,
  fun r ls st G => ev_getfield rfl,
  fun r ls st G hr hG => ev_virt (As := []) rfl rfl rfl rfl rfl rfl hr hG,
  fun v0 v1 v2 x st G => ev_istore_n (X := X) (k := 69) (pc := 30) (ls := [v0, v1, v2]) (st := st) (G := G) (j := 2) (x := x) rfl (Nat.le_of_ble_eq_true rfl),
  fun v0 v1 x st G => ev_iload_n rfl rfl,
  fun x ls st G => ev_br rfl rfl,
  fun ls st G => ev_goto rfl rfl,
  fun v1 v2 x st G => ev_aload_n rfl rfl,
  fun r ls st G => ev_getfield rfl,
  fun v0 v1 x st G => ev_iload_n rfl rfl,
  fun a0 r ls st G hr hG => ev_virt (As := [.int a0]) rfl rfl rfl rfl rfl rfl hr hG,
  fun v0 v2 x st G => ev_iinc (X := X) (k := 69) (pc := 46) (ls := [v0, .int x, v2]) (st := st) (G := G) (j := 1) (n := 1) (x := x) (v := 1) rfl rfl rfl,
  fun ls st G => ev_goto rfl rfl,
  fun v0 v2 x st G => ev_iload_n rfl rfl,
  fun v ls G => ev_ireturn rfl rfl⟩
theorem e_70 {X : mc_X} : (∀ (x : Nat) (st : List Value) (G : mc_H), mc_ev X 70 0 [.ref x] st G = mc_ev X 70 1 [.ref x] (.ref x :: st) G) ∧
  (∀ (r : Nat) (ls st : List Value) (G : mc_H), mc_ev X 70 1 ls (.ref r :: st) G = (mc_getf G r 7 1).bind (fun v => mc_ev X 70 4 ls (v :: st) G)) ∧
  (∀ (r : Nat) (ls st : List Value) (G : mc_H), mc_ev X 70 4 ls (.ref r :: st) G = (mc_getf G r 1 2).bind (fun v => mc_ev X 70 7 ls (v :: st) G)) ∧
  (∀ (x : Int32) (ls st : List Value) (G : mc_H), mc_ev X 70 7 ls (.int x :: st) G = if x = 0 then mc_ev X 70 10 ls st G else mc_ev X 70 13 ls st G) ∧
  (∀ (ls st : List Value) (G : mc_H), mc_ev X 70 10 ls st G = mc_ev X 70 12 ls (.int (-2) :: st) G) ∧
  (∀ (v : Int32) (ls : List Value) (G : mc_H), mc_ev X 70 12 ls [.int v] G = some (some (.int v), G)) ∧
  (∀ (x : Nat) (st : List Value) (G : mc_H), mc_ev X 70 13 [.ref x] st G = mc_ev X 70 14 [.ref x] (.ref x :: st) G) ∧
  (∀ (r : Nat) (ls st : List Value) (G : mc_H), mc_ev X 70 14 ls (.ref r :: st) G = (mc_getf G r 7 1).bind (fun v => mc_ev X 70 17 ls (v :: st) G)) ∧
  (∀ (x : Nat) (st : List Value) (G : mc_H), mc_ev X 70 17 [.ref x] st G = mc_ev X 70 18 [.ref x] (.ref x :: st) G) ∧
  (∀ (r : Nat) (ls st : List Value) (G : mc_H), mc_ev X 70 18 ls (.ref r :: st) G = (mc_getf G r 7 0).bind (fun v => mc_ev X 70 21 ls (v :: st) G)) ∧
  (∀ (r : Nat) (ls st : List Value) (G : mc_H), mc_ev X 70 21 ls (.ref r :: st) G = (mc_getf G r 4 1).bind (fun v => mc_ev X 70 24 ls (v :: st) G)) ∧
  (∀ (a0 : Nat) (r : Nat) (ls st : List Value) (G : mc_H), st.length ≤ 4 → mc_cls G r = some 1 → mc_ev X 70 24 ls (.ref a0 :: .ref r :: st) G = (mc_ev X 8 0 [.ref r, .ref a0] [] G).bind (fun q => mc_ev X 70 27 ls (q.1.toList ++ st) q.2)) ∧
  (∀ (x : Nat) (st : List Value) (G : mc_H), mc_ev X 70 27 [.ref x] st G = mc_ev X 70 28 [.ref x] (.ref x :: st) G) ∧
  (∀ (r : Nat) (ls st : List Value) (G : mc_H), mc_ev X 70 28 ls (.ref r :: st) G = (mc_getf G r 7 2).bind (fun v => mc_ev X 70 31 ls (v :: st) G)) ∧
  (∀ (ls st : List Value) (G : mc_H), mc_ev X 70 31 ls st G = mc_ev X 70 32 ls (.int 1 :: st) G) ∧
  (∀ (v : Value) (r : Nat) (ls st : List Value) (G : mc_H), mc_ev X 70 32 ls (v :: .ref r :: st) G = (mc_setf G r 2 1 v).bind (fun G' => mc_ev X 70 35 ls st G')) ∧
  (∀ (x : Nat) (st : List Value) (G : mc_H), mc_ev X 70 35 [.ref x] st G = mc_ev X 70 36 [.ref x] (.ref x :: st) G) ∧
  (∀ (r : Nat) (ls st : List Value) (G : mc_H), mc_ev X 70 36 ls (.ref r :: st) G = (mc_getf G r 7 1).bind (fun v => mc_ev X 70 39 ls (v :: st) G)) ∧
  (∀ (r : Nat) (ls st : List Value) (G : mc_H), mc_ev X 70 39 ls (.ref r :: st) G = (mc_getf G r 1 2).bind (fun v => mc_ev X 70 42 ls (v :: st) G)) ∧
  (∀ (v : Int32) (ls : List Value) (G : mc_H), mc_ev X 70 42 ls [.int v] G = some (some (.int v), G)) := ⟨fun  x st G => ev_aload_n rfl rfl,
  fun r ls st G => ev_getfield rfl,
  fun r ls st G => ev_getfield rfl,
  fun x ls st G => ev_br rfl rfl,
  fun ls st G => ev_bipush rfl rfl,
  fun v ls G => ev_ireturn rfl rfl,
  fun  x st G => ev_aload_n rfl rfl,
  fun r ls st G => ev_getfield rfl,
  fun  x st G => ev_aload_n rfl rfl,
  fun r ls st G => ev_getfield rfl,
  fun r ls st G => ev_getfield rfl,
  fun a0 r ls st G hr hG => ev_virt (As := [.ref a0]) rfl rfl rfl rfl rfl rfl hr hG,
  fun  x st G => ev_aload_n rfl rfl,
  fun r ls st G => ev_getfield rfl,
  fun ls st G => ev_iconst rfl rfl,
  fun v r ls st G => ev_putfield rfl,
  fun  x st G => ev_aload_n rfl rfl,
  fun r ls st G => ev_getfield rfl,
  fun r ls st G => ev_getfield rfl,
  fun v ls G => ev_ireturn rfl rfl⟩
theorem e_71 {X : mc_X} : (∀ (v1 v2 : Value) (x : Nat) (st : List Value) (G : mc_H), mc_ev X 71 0 [.ref x, v1, v2] st G = mc_ev X 71 1 [.ref x, v1, v2] (.ref x :: st) G) ∧
  (∀ (v0 v2 : Value) (x : Int32) (st : List Value) (G : mc_H), mc_ev X 71 1 [v0, .int x, v2] st G = mc_ev X 71 2 [v0, .int x, v2] (.int x :: st) G) ∧
  (∀ (a0 : Int32) (r : Nat) (ls st : List Value) (G : mc_H), st.length ≤ 4 → mc_cls G r = some 7 → mc_ev X 71 2 ls (.int a0 :: .ref r :: st) G = (mc_ev X 96 0 [.ref r, .int a0] [] G).bind (fun q => mc_ev X 71 5 ls (q.1.toList ++ st) q.2)) ∧
  (∀ (x : Int32) (ls st : List Value) (G : mc_H), mc_ev X 71 5 ls (.int x :: st) G = if x = 0 then mc_ev X 71 10 ls st G else mc_ev X 71 8 ls st G) ∧
  (∀ (ls st : List Value) (G : mc_H), mc_ev X 71 8 ls st G = mc_ev X 71 9 ls (.int (-1) :: st) G) ∧
  (∀ (v : Int32) (ls : List Value) (G : mc_H), mc_ev X 71 9 ls [.int v] G = some (some (.int v), G)) ∧
  (∀ (v1 v2 : Value) (x : Nat) (st : List Value) (G : mc_H), mc_ev X 71 10 [.ref x, v1, v2] st G = mc_ev X 71 11 [.ref x, v1, v2] (.ref x :: st) G) ∧
  (∀ (r : Nat) (ls st : List Value) (G : mc_H), mc_ev X 71 11 ls (.ref r :: st) G = (mc_getf G r 7 0).bind (fun v => mc_ev X 71 14 ls (v :: st) G)) ∧
  (∀ (v1 v2 : Value) (x : Nat) (st : List Value) (G : mc_H), mc_ev X 71 14 [.ref x, v1, v2] st G = mc_ev X 71 15 [.ref x, v1, v2] (.ref x :: st) G) ∧
  (∀ (r : Nat) (ls st : List Value) (G : mc_H), mc_ev X 71 15 ls (.ref r :: st) G = (mc_getf G r 7 0).bind (fun v => mc_ev X 71 18 ls (v :: st) G)) ∧
  (∀ (r : Nat) (ls st : List Value) (G : mc_H), mc_ev X 71 18 ls (.ref r :: st) G = (mc_getf G r 4 1).bind (fun v => mc_ev X 71 21 ls (v :: st) G)) ∧
  (∀ (r : Nat) (ls st : List Value) (G : mc_H), mc_ev X 71 21 ls (.ref r :: st) G = (mc_getf G r 5 2).bind (fun v => mc_ev X 71 24 ls (v :: st) G)) ∧
  (∀ (v0 v2 : Value) (x : Int32) (st : List Value) (G : mc_H), mc_ev X 71 24 [v0, .int x, v2] st G = mc_ev X 71 25 [v0, .int x, v2] (.int x :: st) G) ∧
  (∀ (a0 : Int32) (a1 : Int32) (r : Nat) (ls st : List Value) (G : mc_H), st.length ≤ 4 → mc_cls G r = some 4 → mc_ev X 71 25 ls (.int a1 :: .int a0 :: .ref r :: st) G = (mc_ev X 29 0 [.ref r, .int a0, .int a1] [] G).bind (fun q => mc_ev X 71 28 ls (q.1.toList ++ st) q.2)) ∧
  (∀ (ls st : List Value) (G : mc_H), mc_ev X 71 28 ls st G = mc_ev X 71 29 ls (.int 1 :: st) G) ∧
  (∀ (x y : Int32) (ls st : List Value) (G : mc_H), mc_ev X 71 29 ls (.int y :: .int x :: st) G = if x = y then mc_ev X 71 32 ls st G else mc_ev X 71 36 ls st G) ∧
  (∀ (ls st : List Value) (G : mc_H), mc_ev X 71 32 ls st G = mc_ev X 71 33 ls (.int 1 :: st) G) ∧
  (∀ (ls st : List Value) (G : mc_H), mc_ev X 71 33 ls st G = mc_ev X 71 37 ls st G) ∧
  (∀ (ls st : List Value) (G : mc_H), mc_ev X 71 36 ls st G = mc_ev X 71 37 ls (.int 0 :: st) G) ∧
  (∀ (v0 v1 v2 : Value) (x : Int32) (st : List Value) (G : mc_H), mc_ev X 71 37 [v0, v1, v2] (.int x :: st) G = mc_ev X 71 38 [v0, v1, .int x] st G) ∧
  (∀ (v1 v2 : Value) (x : Nat) (st : List Value) (G : mc_H), mc_ev X 71 38 [.ref x, v1, v2] st G = mc_ev X 71 39 [.ref x, v1, v2] (.ref x :: st) G) ∧
  (∀ (x : Nat) (ls st : List Value) (G : mc_H), mc_ev X 71 39 ls (.ref x :: st) G = mc_ev X 71 40 ls (.ref x :: .ref x :: st) G) ∧
  (∀ (r : Nat) (ls st : List Value) (G : mc_H), mc_ev X 71 40 ls (.ref r :: st) G = (mc_getf G r 7 5).bind (fun v => mc_ev X 71 43 ls (v :: st) G)) ∧
  (∀ (v0 v1 : Value) (x : Int32) (st : List Value) (G : mc_H), mc_ev X 71 43 [v0, v1, .int x] st G = mc_ev X 71 44 [v0, v1, .int x] (.int x :: st) G) ∧
  (∀ (x : Int32) (ls st : List Value) (G : mc_H), mc_ev X 71 44 ls (.int x :: st) G = if x = 0 then mc_ev X 71 53 ls st G else mc_ev X 71 47 ls st G) ∧
  (∀ (ls st : List Value) (G : mc_H), mc_ev X 71 47 ls st G = mc_ev X 71 50 ls (.long 101 :: st) G) ∧
  (∀ (ls st : List Value) (G : mc_H), mc_ev X 71 50 ls st G = mc_ev X 71 70 ls st G) ∧
  (∀ (ls st : List Value) (G : mc_H), mc_ev X 71 53 ls st G = mc_ev X 71 56 ls (.float 1 :: st) G) ∧
  (∀ (v1 v2 : Value) (x : Nat) (st : List Value) (G : mc_H), mc_ev X 71 56 [.ref x, v1, v2] st G = mc_ev X 71 57 [.ref x, v1, v2] (.ref x :: st) G) ∧
  (∀ (r : Nat) (ls st : List Value) (G : mc_H), mc_ev X 71 57 ls (.ref r :: st) G = (mc_getf G r 7 0).bind (fun v => mc_ev X 71 60 ls (v :: st) G)) ∧
  (∀ (r : Nat) (ls st : List Value) (G : mc_H), mc_ev X 71 60 ls (.ref r :: st) G = (mc_getf G r 4 1).bind (fun v => mc_ev X 71 63 ls (v :: st) G)) ∧
  (∀ (r : Nat) (ls st : List Value) (G : mc_H), mc_ev X 71 63 ls (.ref r :: st) G = (mc_getf G r 5 3).bind (fun v => mc_ev X 71 66 ls (v :: st) G)) ∧
  (∀ (v0 v2 : Value) (x : Int32) (st : List Value) (G : mc_H), mc_ev X 71 66 [v0, .int x, v2] st G = mc_ev X 71 67 [v0, .int x, v2] (.int x :: st) G) ∧
  (∀ (i : Int32) (r : Value) (ls st : List Value) (G : mc_H), mc_ev X 71 67 ls (.int i :: r :: st) G = (mc_getA X G 0 r i).bind (fun x => mc_ev X 71 68 ls (.int x :: st) G)) ∧
  (∀ (i : Int32) (r : Value) (ls st : List Value) (G : mc_H), mc_ev X 71 68 ls (.int i :: r :: st) G = (mc_getA X G 0 r i).bind (fun x => mc_ev X 71 69 ls (.int x :: st) G)) ∧
  (∀ (x : Int32) (ls st : List Value) (G : mc_H), mc_ev X 71 69 ls (.int x :: st) G = mc_ev X 71 70 ls (.long x.toInt64 :: st) G) ∧
  (∀ (x y : Int64) (ls st : List Value) (G : mc_H), mc_ev X 71 70 ls (.long y :: .long x :: st) G = mc_ev X 71 71 ls (.long (x + y) :: st) G) ∧
  (∀ (v : Value) (r : Nat) (ls st : List Value) (G : mc_H), mc_ev X 71 71 ls (v :: .ref r :: st) G = (mc_setf G r 7 5 v).bind (fun G' => mc_ev X 71 74 ls st G')) ∧
  (∀ (v1 v2 : Value) (x : Nat) (st : List Value) (G : mc_H), mc_ev X 71 74 [.ref x, v1, v2] st G = mc_ev X 71 75 [.ref x, v1, v2] (.ref x :: st) G) ∧
  (∀ (r : Nat) (ls st : List Value) (G : mc_H), mc_ev X 71 75 ls (.ref r :: st) G = (mc_getf G r 7 0).bind (fun v => mc_ev X 71 78 ls (v :: st) G)) ∧
  (∀ (v1 v2 : Value) (x : Nat) (st : List Value) (G : mc_H), mc_ev X 71 78 [.ref x, v1, v2] st G = mc_ev X 71 79 [.ref x, v1, v2] (.ref x :: st) G) ∧
  (∀ (r : Nat) (ls st : List Value) (G : mc_H), mc_ev X 71 79 ls (.ref r :: st) G = (mc_getf G r 7 0).bind (fun v => mc_ev X 71 82 ls (v :: st) G)) ∧
  (∀ (r : Nat) (ls st : List Value) (G : mc_H), st.length ≤ 4 → mc_cls G r = some 4 → mc_ev X 71 82 ls (.ref r :: st) G = (mc_ev X 33 0 [.ref r, .null] [] G).bind (fun q => mc_ev X 71 85 ls (q.1.toList ++ st) q.2)) ∧
  (∀ (v0 v2 : Value) (x : Int32) (st : List Value) (G : mc_H), mc_ev X 71 85 [v0, .int x, v2] st G = mc_ev X 71 86 [v0, .int x, v2] (.int x :: st) G) ∧
  (∀ (a0 : Int32) (a1 : Int32) (r : Nat) (ls st : List Value) (G : mc_H), st.length ≤ 4 → mc_cls G r = some 4 → mc_ev X 71 86 ls (.int a1 :: .int a0 :: .ref r :: st) G = (mc_ev X 29 0 [.ref r, .int a0, .int a1] [] G).bind (fun q => mc_ev X 71 89 ls (q.1.toList ++ st) q.2)) ∧
  (∀ (v : Int32) (ls : List Value) (G : mc_H), mc_ev X 71 89 ls [.int v] G = some (some (.int v), G)) := ⟨fun v1 v2 x st G => ev_aload_n rfl rfl,
  fun v0 v2 x st G => ev_iload_n rfl rfl,
  fun a0 r ls st G hr hG => ev_virt (As := [.int a0]) rfl rfl rfl rfl rfl rfl hr hG,
  fun x ls st G => ev_br rfl rfl,
  fun ls st G => ev_iconst rfl rfl,
  fun v ls G => ev_ireturn rfl rfl,
  fun v1 v2 x st G => ev_aload_n rfl rfl,
  fun r ls st G => ev_getfield rfl,
  fun v1 v2 x st G => ev_aload_n rfl rfl,
  fun r ls st G => ev_getfield rfl,
  fun r ls st G => ev_getfield rfl,
  fun r ls st G => ev_getfield rfl,
  fun v0 v2 x st G => ev_iload_n rfl rfl,
  fun a0 a1 r ls st G hr hG => ev_virt (As := [.int a0, .int a1]) rfl rfl rfl rfl rfl rfl hr hG,
  fun ls st G => ev_iconst rfl rfl,
  fun x y ls st G => ev_br rfl rfl,
  fun ls st G => ev_iconst rfl rfl,
  fun ls st G => ev_goto rfl rfl,
  fun ls st G => ev_iconst rfl rfl,
  fun v0 v1 v2 x st G => ev_istore_n (X := X) (k := 71) (pc := 37) (ls := [v0, v1, v2]) (st := st) (G := G) (j := 2) (x := x) rfl (Nat.le_of_ble_eq_true rfl),
  fun v1 v2 x st G => ev_aload_n rfl rfl,
  fun x ls st G => ev_dup rfl,
  fun r ls st G => ev_getfield rfl,
  fun v0 v1 x st G => ev_iload_n rfl rfl,
  fun x ls st G => ev_br rfl rfl,
  fun ls st G => ev_ldc2_w rfl rfl,
  fun ls st G => ev_goto rfl rfl,
  fun ls st G => ev_getstatic rfl rfl,
  fun v1 v2 x st G => ev_aload_n rfl rfl,
  fun r ls st G => ev_getfield rfl,
  fun r ls st G => ev_getfield rfl,
  fun r ls st G => ev_getfield rfl,
  fun v0 v2 x st G => ev_iload_n rfl rfl,
  fun i r ls st G => ev_iaload rfl,
  fun i r ls st G => ev_iaload rfl,
  fun x ls st G => ev_i2l rfl,
  fun x y ls st G => ev_ladd rfl,
  fun v r ls st G => ev_putfield rfl,
  fun v1 v2 x st G => ev_aload_n rfl rfl,
  fun r ls st G => ev_getfield rfl,
  fun v1 v2 x st G => ev_aload_n rfl rfl,
  fun r ls st G => ev_getfield rfl,
  fun r ls st G hr hG => ev_virt (As := []) rfl rfl rfl rfl rfl rfl hr hG,
  fun v0 v2 x st G => ev_iload_n rfl rfl,
  fun a0 a1 r ls st G hr hG => ev_virt (As := [.int a0, .int a1]) rfl rfl rfl rfl rfl rfl hr hG,
  fun v ls G => ev_ireturn rfl rfl⟩
theorem e_72 {X : mc_X} : (∀ (v1 v2 : Value) (x : Nat) (st : List Value) (G : mc_H), mc_ev X 72 0 [.ref x, v1, v2] st G = mc_ev X 72 1 [.ref x, v1, v2] (.ref x :: st) G) ∧
  (∀ (v0 v2 : Value) (x : Int32) (st : List Value) (G : mc_H), mc_ev X 72 1 [v0, .int x, v2] st G = mc_ev X 72 2 [v0, .int x, v2] (.int x :: st) G) ∧
  (∀ (a0 : Int32) (r : Nat) (ls st : List Value) (G : mc_H), st.length ≤ 4 → mc_cls G r = some 7 → mc_ev X 72 2 ls (.int a0 :: .ref r :: st) G = (mc_ev X 96 0 [.ref r, .int a0] [] G).bind (fun q => mc_ev X 72 5 ls (q.1.toList ++ st) q.2)) ∧
  (∀ (x : Int32) (ls st : List Value) (G : mc_H), mc_ev X 72 5 ls (.int x :: st) G = if x = 0 then mc_ev X 72 10 ls st G else mc_ev X 72 8 ls st G) ∧
  (∀ (ls st : List Value) (G : mc_H), mc_ev X 72 8 ls st G = mc_ev X 72 9 ls (.int (-1) :: st) G) ∧
  (∀ (v : Int32) (ls : List Value) (G : mc_H), mc_ev X 72 9 ls [.int v] G = some (some (.int v), G)) ∧
  (∀ (v1 v2 : Value) (x : Nat) (st : List Value) (G : mc_H), mc_ev X 72 10 [.ref x, v1, v2] st G = mc_ev X 72 11 [.ref x, v1, v2] (.ref x :: st) G) ∧
  (∀ (r : Nat) (ls st : List Value) (G : mc_H), mc_ev X 72 11 ls (.ref r :: st) G = (mc_getf G r 7 0).bind (fun v => mc_ev X 72 14 ls (v :: st) G)) ∧
  (∀ (r : Nat) (ls st : List Value) (G : mc_H), mc_ev X 72 14 ls (.ref r :: st) G = (mc_getf G r 4 1).bind (fun v => mc_ev X 72 17 ls (v :: st) G)) ∧
  (∀ (r : Nat) (ls st : List Value) (G : mc_H), mc_ev X 72 17 ls (.ref r :: st) G = (mc_getf G r 5 3).bind (fun v => mc_ev X 72 20 ls (v :: st) G)) ∧
  (∀ (v0 v2 : Value) (x : Int32) (st : List Value) (G : mc_H), mc_ev X 72 20 [v0, .int x, v2] st G = mc_ev X 72 21 [v0, .int x, v2] (.int x :: st) G) ∧
  (∀ (i : Int32) (r : Value) (ls st : List Value) (G : mc_H), mc_ev X 72 21 ls (.int i :: r :: st) G = (mc_getA X G 0 r i).bind (fun x => mc_ev X 72 22 ls (.int x :: st) G)) ∧
  (∀ (v0 v1 v2 : Value) (x : Int32) (st : List Value) (G : mc_H), mc_ev X 72 22 [v0, v1, v2] (.int x :: st) G = mc_ev X 72 23 [v0, v1, .int x] st G) ∧
  (∀ (v1 v2 : Value) (x : Nat) (st : List Value) (G : mc_H), mc_ev X 72 23 [.ref x, v1, v2] st G = mc_ev X 72 24 [.ref x, v1, v2] (.ref x :: st) G) ∧
  (∀ (x : Nat) (ls st : List Value) (G : mc_H), mc_ev X 72 24 ls (.ref x :: st) G = mc_ev X 72 25 ls (.ref x :: .ref x :: st) G) ∧
  (∀ (r : Nat) (ls st : List Value) (G : mc_H), mc_ev X 72 25 ls (.ref r :: st) G = (mc_getf G r 7 5).bind (fun v => mc_ev X 72 28 ls (v :: st) G)) ∧
  (∀ (ls st : List Value) (G : mc_H), mc_ev X 72 28 ls st G = mc_ev X 72 31 ls (.float 2 :: st) G) ∧
  (∀ (v0 v1 : Value) (x : Int32) (st : List Value) (G : mc_H), mc_ev X 72 31 [v0, v1, .int x] st G = mc_ev X 72 32 [v0, v1, .int x] (.int x :: st) G) ∧
  (∀ (i : Int32) (r : Value) (ls st : List Value) (G : mc_H), mc_ev X 72 32 ls (.int i :: r :: st) G = (mc_getA X G 0 r i).bind (fun x => mc_ev X 72 33 ls (.int x :: st) G)) ∧
  (∀ (x : Int32) (ls st : List Value) (G : mc_H), mc_ev X 72 33 ls (.int x :: st) G = mc_ev X 72 34 ls (.long x.toInt64 :: st) G) ∧
  (∀ (x y : Int64) (ls st : List Value) (G : mc_H), mc_ev X 72 34 ls (.long y :: .long x :: st) G = mc_ev X 72 35 ls (.long (x + y) :: st) G) ∧
  (∀ (v : Value) (r : Nat) (ls st : List Value) (G : mc_H), mc_ev X 72 35 ls (v :: .ref r :: st) G = (mc_setf G r 7 5 v).bind (fun G' => mc_ev X 72 38 ls st G')) ∧
  (∀ (ls st : List Value) (G : mc_H), mc_ev X 72 38 ls st G = mc_ev X 72 41 ls (.float 0 :: st) G) ∧
  (∀ (v0 v1 : Value) (x : Int32) (st : List Value) (G : mc_H), mc_ev X 72 41 [v0, v1, .int x] st G = mc_ev X 72 42 [v0, v1, .int x] (.int x :: st) G) ∧
  (∀ (i : Int32) (r : Value) (ls st : List Value) (G : mc_H), mc_ev X 72 42 ls (.int i :: r :: st) G = (mc_getA X G 0 r i).bind (fun x => mc_ev X 72 43 ls (.int x :: st) G)) ∧
  (∀ (v : Int32) (ls : List Value) (G : mc_H), mc_ev X 72 43 ls [.int v] G = some (some (.int v), G)) := ⟨fun v1 v2 x st G => ev_aload_n rfl rfl,
  fun v0 v2 x st G => ev_iload_n rfl rfl,
  fun a0 r ls st G hr hG => ev_virt (As := [.int a0]) rfl rfl rfl rfl rfl rfl hr hG,
  fun x ls st G => ev_br rfl rfl,
  fun ls st G => ev_iconst rfl rfl,
  fun v ls G => ev_ireturn rfl rfl,
  fun v1 v2 x st G => ev_aload_n rfl rfl,
  fun r ls st G => ev_getfield rfl,
  fun r ls st G => ev_getfield rfl,
  fun r ls st G => ev_getfield rfl,
  fun v0 v2 x st G => ev_iload_n rfl rfl,
  fun i r ls st G => ev_iaload rfl,
  fun v0 v1 v2 x st G => ev_istore_n (X := X) (k := 72) (pc := 22) (ls := [v0, v1, v2]) (st := st) (G := G) (j := 2) (x := x) rfl (Nat.le_of_ble_eq_true rfl),
  fun v1 v2 x st G => ev_aload_n rfl rfl,
  fun x ls st G => ev_dup rfl,
  fun r ls st G => ev_getfield rfl,
  fun ls st G => ev_getstatic rfl rfl,
  fun v0 v1 x st G => ev_iload_n rfl rfl,
  fun i r ls st G => ev_iaload rfl,
  fun x ls st G => ev_i2l rfl,
  fun x y ls st G => ev_ladd rfl,
  fun v r ls st G => ev_putfield rfl,
  fun ls st G => ev_getstatic rfl rfl,
  fun v0 v1 x st G => ev_iload_n rfl rfl,
  fun i r ls st G => ev_iaload rfl,
  fun v ls G => ev_ireturn rfl rfl⟩
theorem e_73 {X : mc_X} : (∀ (v1 v2 : Value) (x : Nat) (st : List Value) (G : mc_H), mc_ev X 73 0 [.ref x, v1, v2] st G = mc_ev X 73 1 [.ref x, v1, v2] (.ref x :: st) G) ∧
  (∀ (v0 v2 : Value) (x : Int32) (st : List Value) (G : mc_H), mc_ev X 73 1 [v0, .int x, v2] st G = mc_ev X 73 2 [v0, .int x, v2] (.int x :: st) G) ∧
  (∀ (a0 : Int32) (r : Nat) (ls st : List Value) (G : mc_H), st.length ≤ 4 → mc_cls G r = some 7 → mc_ev X 73 2 ls (.int a0 :: .ref r :: st) G = (mc_ev X 96 0 [.ref r, .int a0] [] G).bind (fun q => mc_ev X 73 5 ls (q.1.toList ++ st) q.2)) ∧
  (∀ (x : Int32) (ls st : List Value) (G : mc_H), mc_ev X 73 5 ls (.int x :: st) G = if x = 0 then mc_ev X 73 10 ls st G else mc_ev X 73 8 ls st G) ∧
  (∀ (ls st : List Value) (G : mc_H), mc_ev X 73 8 ls st G = mc_ev X 73 9 ls (.int (-1) :: st) G) ∧
  (∀ (v : Int32) (ls : List Value) (G : mc_H), mc_ev X 73 9 ls [.int v] G = some (some (.int v), G)) ∧
  (∀ (v0 v1 : Value) (x : Int32) (st : List Value) (G : mc_H), mc_ev X 73 10 [v0, v1, .int x] st G = mc_ev X 73 11 [v0, v1, .int x] (.int x :: st) G) ∧
  (∀ (ls st : List Value) (G : mc_H), mc_ev X 73 11 ls (.int 0 :: st) G = mc_ev X 73 44 ls st G) ∧
  (∀ (ls st : List Value) (G : mc_H), mc_ev X 73 11 ls (.int 1 :: st) G = mc_ev X 73 63 ls st G) ∧
  (∀ (ls st : List Value) (G : mc_H), mc_ev X 73 11 ls (.int 2 :: st) G = mc_ev X 73 82 ls st G) ∧
  (∀ (ls st : List Value) (G : mc_H), mc_ev X 73 11 ls (.int 3 :: st) G = mc_ev X 73 95 ls st G) ∧
  (∀ (ls st : List Value) (G : mc_H), mc_ev X 73 11 ls (.int 4 :: st) G = mc_ev X 73 114 ls st G) ∧
  (∀ (x : Int32) (ls st : List Value) (G : mc_H), (x.toInt < 0 ∨ 4 < x.toInt) → mc_ev X 73 11 ls (.int x :: st) G = mc_ev X 73 126 ls st G) ∧
  (∀ (v1 v2 : Value) (x : Nat) (st : List Value) (G : mc_H), mc_ev X 73 44 [.ref x, v1, v2] st G = mc_ev X 73 45 [.ref x, v1, v2] (.ref x :: st) G) ∧
  (∀ (r : Nat) (ls st : List Value) (G : mc_H), mc_ev X 73 45 ls (.ref r :: st) G = (mc_getf G r 7 0).bind (fun v => mc_ev X 73 48 ls (v :: st) G)) ∧
  (∀ (v1 v2 : Value) (x : Nat) (st : List Value) (G : mc_H), mc_ev X 73 48 [.ref x, v1, v2] st G = mc_ev X 73 49 [.ref x, v1, v2] (.ref x :: st) G) ∧
  (∀ (r : Nat) (ls st : List Value) (G : mc_H), mc_ev X 73 49 ls (.ref r :: st) G = (mc_getf G r 7 0).bind (fun v => mc_ev X 73 52 ls (v :: st) G)) ∧
  (∀ (r : Nat) (ls st : List Value) (G : mc_H), mc_ev X 73 52 ls (.ref r :: st) G = (mc_getf G r 4 1).bind (fun v => mc_ev X 73 55 ls (v :: st) G)) ∧
  (∀ (r : Nat) (ls st : List Value) (G : mc_H), mc_ev X 73 55 ls (.ref r :: st) G = (mc_getf G r 5 0).bind (fun v => mc_ev X 73 58 ls (v :: st) G)) ∧
  (∀ (v0 v2 : Value) (x : Int32) (st : List Value) (G : mc_H), mc_ev X 73 58 [v0, .int x, v2] st G = mc_ev X 73 59 [v0, .int x, v2] (.int x :: st) G) ∧
  (∀ (a0 : Int32) (a1 : Int32) (r : Nat) (ls st : List Value) (G : mc_H), st.length ≤ 4 → mc_cls G r = some 4 → mc_ev X 73 59 ls (.int a1 :: .int a0 :: .ref r :: st) G = (mc_ev X 29 0 [.ref r, .int a0, .int a1] [] G).bind (fun q => mc_ev X 73 62 ls (q.1.toList ++ st) q.2)) ∧
  (∀ (v : Int32) (ls : List Value) (G : mc_H), mc_ev X 73 62 ls [.int v] G = some (some (.int v), G)) ∧
  (∀ (v1 v2 : Value) (x : Nat) (st : List Value) (G : mc_H), mc_ev X 73 63 [.ref x, v1, v2] st G = mc_ev X 73 64 [.ref x, v1, v2] (.ref x :: st) G) ∧
  (∀ (r : Nat) (ls st : List Value) (G : mc_H), mc_ev X 73 64 ls (.ref r :: st) G = (mc_getf G r 7 0).bind (fun v => mc_ev X 73 67 ls (v :: st) G)) ∧
  (∀ (v1 v2 : Value) (x : Nat) (st : List Value) (G : mc_H), mc_ev X 73 67 [.ref x, v1, v2] st G = mc_ev X 73 68 [.ref x, v1, v2] (.ref x :: st) G) ∧
  (∀ (r : Nat) (ls st : List Value) (G : mc_H), mc_ev X 73 68 ls (.ref r :: st) G = (mc_getf G r 7 0).bind (fun v => mc_ev X 73 71 ls (v :: st) G)) ∧
  (∀ (r : Nat) (ls st : List Value) (G : mc_H), mc_ev X 73 71 ls (.ref r :: st) G = (mc_getf G r 4 1).bind (fun v => mc_ev X 73 74 ls (v :: st) G)) ∧
  (∀ (r : Nat) (ls st : List Value) (G : mc_H), mc_ev X 73 74 ls (.ref r :: st) G = (mc_getf G r 5 1).bind (fun v => mc_ev X 73 77 ls (v :: st) G)) ∧
  (∀ (v0 v2 : Value) (x : Int32) (st : List Value) (G : mc_H), mc_ev X 73 77 [v0, .int x, v2] st G = mc_ev X 73 78 [v0, .int x, v2] (.int x :: st) G) ∧
  (∀ (a0 : Int32) (a1 : Int32) (r : Nat) (ls st : List Value) (G : mc_H), st.length ≤ 4 → mc_cls G r = some 4 → mc_ev X 73 78 ls (.int a1 :: .int a0 :: .ref r :: st) G = (mc_ev X 29 0 [.ref r, .int a0, .int a1] [] G).bind (fun q => mc_ev X 73 81 ls (q.1.toList ++ st) q.2)) ∧
  (∀ (v : Int32) (ls : List Value) (G : mc_H), mc_ev X 73 81 ls [.int v] G = some (some (.int v), G)) ∧
  (∀ (v1 v2 : Value) (x : Nat) (st : List Value) (G : mc_H), mc_ev X 73 82 [.ref x, v1, v2] st G = mc_ev X 73 83 [.ref x, v1, v2] (.ref x :: st) G) ∧
  (∀ (r : Nat) (ls st : List Value) (G : mc_H), mc_ev X 73 83 ls (.ref r :: st) G = (mc_getf G r 7 0).bind (fun v => mc_ev X 73 86 ls (v :: st) G)) ∧
  (∀ (r : Nat) (ls st : List Value) (G : mc_H), mc_ev X 73 86 ls (.ref r :: st) G = (mc_getf G r 4 1).bind (fun v => mc_ev X 73 89 ls (v :: st) G)) ∧
  (∀ (r : Nat) (ls st : List Value) (G : mc_H), mc_ev X 73 89 ls (.ref r :: st) G = (mc_getf G r 5 3).bind (fun v => mc_ev X 73 92 ls (v :: st) G)) ∧
  (∀ (v0 v2 : Value) (x : Int32) (st : List Value) (G : mc_H), mc_ev X 73 92 [v0, .int x, v2] st G = mc_ev X 73 93 [v0, .int x, v2] (.int x :: st) G) ∧
  (∀ (i : Int32) (r : Value) (ls st : List Value) (G : mc_H), mc_ev X 73 93 ls (.int i :: r :: st) G = (mc_getA X G 0 r i).bind (fun x => mc_ev X 73 94 ls (.int x :: st) G)) ∧
  (∀ (v : Int32) (ls : List Value) (G : mc_H), mc_ev X 73 94 ls [.int v] G = some (some (.int v), G)) ∧
  (∀ (v1 v2 : Value) (x : Nat) (st : List Value) (G : mc_H), mc_ev X 73 95 [.ref x, v1, v2] st G = mc_ev X 73 96 [.ref x, v1, v2] (.ref x :: st) G) ∧
  (∀ (r : Nat) (ls st : List Value) (G : mc_H), mc_ev X 73 96 ls (.ref r :: st) G = (mc_getf G r 7 0).bind (fun v => mc_ev X 73 99 ls (v :: st) G)) ∧
  (∀ (v1 v2 : Value) (x : Nat) (st : List Value) (G : mc_H), mc_ev X 73 99 [.ref x, v1, v2] st G = mc_ev X 73 100 [.ref x, v1, v2] (.ref x :: st) G) ∧
  (∀ (r : Nat) (ls st : List Value) (G : mc_H), mc_ev X 73 100 ls (.ref r :: st) G = (mc_getf G r 7 0).bind (fun v => mc_ev X 73 103 ls (v :: st) G)) ∧
  (∀ (r : Nat) (ls st : List Value) (G : mc_H), mc_ev X 73 103 ls (.ref r :: st) G = (mc_getf G r 4 1).bind (fun v => mc_ev X 73 106 ls (v :: st) G)) ∧
  (∀ (r : Nat) (ls st : List Value) (G : mc_H), mc_ev X 73 106 ls (.ref r :: st) G = (mc_getf G r 5 2).bind (fun v => mc_ev X 73 109 ls (v :: st) G)) ∧
  (∀ (v0 v2 : Value) (x : Int32) (st : List Value) (G : mc_H), mc_ev X 73 109 [v0, .int x, v2] st G = mc_ev X 73 110 [v0, .int x, v2] (.int x :: st) G) ∧
  (∀ (a0 : Int32) (a1 : Int32) (r : Nat) (ls st : List Value) (G : mc_H), st.length ≤ 4 → mc_cls G r = some 4 → mc_ev X 73 110 ls (.int a1 :: .int a0 :: .ref r :: st) G = (mc_ev X 29 0 [.ref r, .int a0, .int a1] [] G).bind (fun q => mc_ev X 73 113 ls (q.1.toList ++ st) q.2)) ∧
  (∀ (v : Int32) (ls : List Value) (G : mc_H), mc_ev X 73 113 ls [.int v] G = some (some (.int v), G)) ∧
  (∀ (v1 v2 : Value) (x : Nat) (st : List Value) (G : mc_H), mc_ev X 73 114 [.ref x, v1, v2] st G = mc_ev X 73 115 [.ref x, v1, v2] (.ref x :: st) G) ∧
  (∀ (r : Nat) (ls st : List Value) (G : mc_H), mc_ev X 73 115 ls (.ref r :: st) G = (mc_getf G r 7 0).bind (fun v => mc_ev X 73 118 ls (v :: st) G)) ∧
  (∀ (v0 v2 : Value) (x : Int32) (st : List Value) (G : mc_H), mc_ev X 73 118 [v0, .int x, v2] st G = mc_ev X 73 119 [v0, .int x, v2] (.int x :: st) G) ∧
  (∀ (a0 : Int32) (r : Nat) (ls st : List Value) (G : mc_H), st.length ≤ 4 → mc_cls G r = some 4 → mc_ev X 73 119 ls (.int a0 :: .ref r :: st) G = (mc_ev X 31 0 [.ref r, .int a0, .null] [] G).bind (fun q => mc_ev X 73 122 ls (q.1.toList ++ st) q.2)) ∧
  (∀ (a0 : Int32) (ls st : List Value) (G : mc_H), st.length ≤ 4 → mc_ev X 73 122 ls (.int a0 :: st) G = (mc_ev X 103 0 [.int a0] [] G).bind (fun q => mc_ev X 73 125 ls (q.1.toList ++ st) q.2)) ∧
  (∀ (v : Int32) (ls : List Value) (G : mc_H), mc_ev X 73 125 ls [.int v] G = some (some (.int v), G)) ∧
  (∀ (ls st : List Value) (G : mc_H), mc_ev X 73 126 ls st G = mc_ev X 73 127 ls (.int (-1) :: st) G) ∧
  (∀ (v : Int32) (ls : List Value) (G : mc_H), mc_ev X 73 127 ls [.int v] G = some (some (.int v), G)) := ⟨fun v1 v2 x st G => ev_aload_n rfl rfl,
  fun v0 v2 x st G => ev_iload_n rfl rfl,
  fun a0 r ls st G hr hG => ev_virt (As := [.int a0]) rfl rfl rfl rfl rfl rfl hr hG,
  fun x ls st G => ev_br rfl rfl,
  fun ls st G => ev_iconst rfl rfl,
  fun v ls G => ev_ireturn rfl rfl,
  fun v0 v1 x st G => ev_iload_n rfl rfl,
  fun ls st G => ev_tabIn rfl (by decide) rfl (by decide) rfl,
  fun ls st G => ev_tabIn rfl (by decide) rfl (by decide) rfl,
  fun ls st G => ev_tabIn rfl (by decide) rfl (by decide) rfl,
  fun ls st G => ev_tabIn rfl (by decide) rfl (by decide) rfl,
  fun ls st G => ev_tabIn rfl (by decide) rfl (by decide) rfl,
  fun x ls st G hx => ev_tabOut rfl rfl hx,
  fun v1 v2 x st G => ev_aload_n rfl rfl,
  fun r ls st G => ev_getfield rfl,
  fun v1 v2 x st G => ev_aload_n rfl rfl,
  fun r ls st G => ev_getfield rfl,
  fun r ls st G => ev_getfield rfl,
  fun r ls st G => ev_getfield rfl,
  fun v0 v2 x st G => ev_iload_n rfl rfl,
  fun a0 a1 r ls st G hr hG => ev_virt (As := [.int a0, .int a1]) rfl rfl rfl rfl rfl rfl hr hG,
  fun v ls G => ev_ireturn rfl rfl,
  fun v1 v2 x st G => ev_aload_n rfl rfl,
  fun r ls st G => ev_getfield rfl,
  fun v1 v2 x st G => ev_aload_n rfl rfl,
  fun r ls st G => ev_getfield rfl,
  fun r ls st G => ev_getfield rfl,
  fun r ls st G => ev_getfield rfl,
  fun v0 v2 x st G => ev_iload_n rfl rfl,
  fun a0 a1 r ls st G hr hG => ev_virt (As := [.int a0, .int a1]) rfl rfl rfl rfl rfl rfl hr hG,
  fun v ls G => ev_ireturn rfl rfl,
  fun v1 v2 x st G => ev_aload_n rfl rfl,
  fun r ls st G => ev_getfield rfl,
  fun r ls st G => ev_getfield rfl,
  fun r ls st G => ev_getfield rfl,
  fun v0 v2 x st G => ev_iload_n rfl rfl,
  fun i r ls st G => ev_iaload rfl,
  fun v ls G => ev_ireturn rfl rfl,
  fun v1 v2 x st G => ev_aload_n rfl rfl,
  fun r ls st G => ev_getfield rfl,
  fun v1 v2 x st G => ev_aload_n rfl rfl,
  fun r ls st G => ev_getfield rfl,
  fun r ls st G => ev_getfield rfl,
  fun r ls st G => ev_getfield rfl,
  fun v0 v2 x st G => ev_iload_n rfl rfl,
  fun a0 a1 r ls st G hr hG => ev_virt (As := [.int a0, .int a1]) rfl rfl rfl rfl rfl rfl hr hG,
  fun v ls G => ev_ireturn rfl rfl,
  fun v1 v2 x st G => ev_aload_n rfl rfl,
  fun r ls st G => ev_getfield rfl,
  fun v0 v2 x st G => ev_iload_n rfl rfl,
  fun a0 r ls st G hr hG => ev_virt (As := [.int a0]) rfl rfl rfl rfl rfl rfl hr hG,
  fun a0 ls st G hr => ev_stat (As := [.int a0]) rfl (by decide) rfl rfl rfl rfl hr,
  fun v ls G => ev_ireturn rfl rfl,
  fun ls st G => ev_iconst rfl rfl,
  fun v ls G => ev_ireturn rfl rfl⟩
theorem e_74 {X : mc_X} : (∀ (v1 v2 : Value) (x : Nat) (st : List Value) (G : mc_H), mc_ev X 74 0 [.ref x, v1, v2] st G = mc_ev X 74 1 [.ref x, v1, v2] (.ref x :: st) G) ∧
  (∀ (v0 v2 : Value) (x : Int32) (st : List Value) (G : mc_H), mc_ev X 74 1 [v0, .int x, v2] st G = mc_ev X 74 2 [v0, .int x, v2] (.int x :: st) G) ∧
  (∀ (a0 : Int32) (r : Nat) (ls st : List Value) (G : mc_H), st.length ≤ 4 → mc_cls G r = some 7 → mc_ev X 74 2 ls (.int a0 :: .ref r :: st) G = (mc_ev X 97 0 [.ref r, .int a0] [] G).bind (fun q => mc_ev X 74 5 ls (q.1.toList ++ st) q.2)) ∧
  (∀ (x : Int32) (ls st : List Value) (G : mc_H), mc_ev X 74 5 ls (.int x :: st) G = if x = 0 then mc_ev X 74 10 ls st G else mc_ev X 74 8 ls st G) ∧
  (∀ (ls st : List Value) (G : mc_H), mc_ev X 74 8 ls st G = mc_ev X 74 9 ls (.int (-1) :: st) G) ∧
  (∀ (v : Int32) (ls : List Value) (G : mc_H), mc_ev X 74 9 ls [.int v] G = some (some (.int v), G)) ∧
  (∀ (v0 v1 : Value) (x : Int32) (st : List Value) (G : mc_H), mc_ev X 74 10 [v0, v1, .int x] st G = mc_ev X 74 11 [v0, v1, .int x] (.int x :: st) G) ∧
  (∀ (ls st : List Value) (G : mc_H), mc_ev X 74 11 ls (.int 0 :: st) G = mc_ev X 74 52 ls st G) ∧
  (∀ (ls st : List Value) (G : mc_H), mc_ev X 74 11 ls (.int 1 :: st) G = mc_ev X 74 65 ls st G) ∧
  (∀ (ls st : List Value) (G : mc_H), mc_ev X 74 11 ls (.int 2 :: st) G = mc_ev X 74 78 ls st G) ∧
  (∀ (ls st : List Value) (G : mc_H), mc_ev X 74 11 ls (.int 3 :: st) G = mc_ev X 74 91 ls st G) ∧
  (∀ (ls st : List Value) (G : mc_H), mc_ev X 74 11 ls (.int 4 :: st) G = mc_ev X 74 104 ls st G) ∧
  (∀ (ls st : List Value) (G : mc_H), mc_ev X 74 11 ls (.int 5 :: st) G = mc_ev X 74 121 ls st G) ∧
  (∀ (ls st : List Value) (G : mc_H), mc_ev X 74 11 ls (.int 6 :: st) G = mc_ev X 74 140 ls st G) ∧
  (∀ (x : Int32) (ls st : List Value) (G : mc_H), (x.toInt < 0 ∨ 6 < x.toInt) → mc_ev X 74 11 ls (.int x :: st) G = mc_ev X 74 149 ls st G) ∧
  (∀ (v1 v2 : Value) (x : Nat) (st : List Value) (G : mc_H), mc_ev X 74 52 [.ref x, v1, v2] st G = mc_ev X 74 53 [.ref x, v1, v2] (.ref x :: st) G) ∧
  (∀ (r : Nat) (ls st : List Value) (G : mc_H), mc_ev X 74 53 ls (.ref r :: st) G = (mc_getf G r 7 0).bind (fun v => mc_ev X 74 56 ls (v :: st) G)) ∧
  (∀ (r : Nat) (ls st : List Value) (G : mc_H), mc_ev X 74 56 ls (.ref r :: st) G = (mc_getf G r 4 0).bind (fun v => mc_ev X 74 59 ls (v :: st) G)) ∧
  (∀ (r : Nat) (ls st : List Value) (G : mc_H), mc_ev X 74 59 ls (.ref r :: st) G = (mc_getf G r 0 6).bind (fun v => mc_ev X 74 62 ls (v :: st) G)) ∧
  (∀ (v0 v2 : Value) (x : Int32) (st : List Value) (G : mc_H), mc_ev X 74 62 [v0, .int x, v2] st G = mc_ev X 74 63 [v0, .int x, v2] (.int x :: st) G) ∧
  (∀ (i : Int32) (r : Value) (ls st : List Value) (G : mc_H), mc_ev X 74 63 ls (.int i :: r :: st) G = (mc_getA X G 0 r i).bind (fun x => mc_ev X 74 64 ls (.int x :: st) G)) ∧
  (∀ (v : Int32) (ls : List Value) (G : mc_H), mc_ev X 74 64 ls [.int v] G = some (some (.int v), G)) ∧
  (∀ (v1 v2 : Value) (x : Nat) (st : List Value) (G : mc_H), mc_ev X 74 65 [.ref x, v1, v2] st G = mc_ev X 74 66 [.ref x, v1, v2] (.ref x :: st) G) ∧
  (∀ (r : Nat) (ls st : List Value) (G : mc_H), mc_ev X 74 66 ls (.ref r :: st) G = (mc_getf G r 7 0).bind (fun v => mc_ev X 74 69 ls (v :: st) G)) ∧
  (∀ (r : Nat) (ls st : List Value) (G : mc_H), mc_ev X 74 69 ls (.ref r :: st) G = (mc_getf G r 4 0).bind (fun v => mc_ev X 74 72 ls (v :: st) G)) ∧
  (∀ (r : Nat) (ls st : List Value) (G : mc_H), mc_ev X 74 72 ls (.ref r :: st) G = (mc_getf G r 0 7).bind (fun v => mc_ev X 74 75 ls (v :: st) G)) ∧
  (∀ (v0 v2 : Value) (x : Int32) (st : List Value) (G : mc_H), mc_ev X 74 75 [v0, .int x, v2] st G = mc_ev X 74 76 [v0, .int x, v2] (.int x :: st) G) ∧
  (∀ (i : Int32) (r : Value) (ls st : List Value) (G : mc_H), mc_ev X 74 76 ls (.int i :: r :: st) G = (mc_getA X G 0 r i).bind (fun x => mc_ev X 74 77 ls (.int x :: st) G)) ∧
  (∀ (v : Int32) (ls : List Value) (G : mc_H), mc_ev X 74 77 ls [.int v] G = some (some (.int v), G)) ∧
  (∀ (v1 v2 : Value) (x : Nat) (st : List Value) (G : mc_H), mc_ev X 74 78 [.ref x, v1, v2] st G = mc_ev X 74 79 [.ref x, v1, v2] (.ref x :: st) G) ∧
  (∀ (r : Nat) (ls st : List Value) (G : mc_H), mc_ev X 74 79 ls (.ref r :: st) G = (mc_getf G r 7 0).bind (fun v => mc_ev X 74 82 ls (v :: st) G)) ∧
  (∀ (r : Nat) (ls st : List Value) (G : mc_H), mc_ev X 74 82 ls (.ref r :: st) G = (mc_getf G r 4 0).bind (fun v => mc_ev X 74 85 ls (v :: st) G)) ∧
  (∀ (r : Nat) (ls st : List Value) (G : mc_H), mc_ev X 74 85 ls (.ref r :: st) G = (mc_getf G r 0 8).bind (fun v => mc_ev X 74 88 ls (v :: st) G)) ∧
  (∀ (v0 v2 : Value) (x : Int32) (st : List Value) (G : mc_H), mc_ev X 74 88 [v0, .int x, v2] st G = mc_ev X 74 89 [v0, .int x, v2] (.int x :: st) G) ∧
  (∀ (i : Int32) (r : Value) (ls st : List Value) (G : mc_H), mc_ev X 74 89 ls (.int i :: r :: st) G = (mc_getA X G 0 r i).bind (fun x => mc_ev X 74 90 ls (.int x :: st) G)) ∧
  (∀ (v : Int32) (ls : List Value) (G : mc_H), mc_ev X 74 90 ls [.int v] G = some (some (.int v), G)) ∧
  (∀ (v1 v2 : Value) (x : Nat) (st : List Value) (G : mc_H), mc_ev X 74 91 [.ref x, v1, v2] st G = mc_ev X 74 92 [.ref x, v1, v2] (.ref x :: st) G) ∧
  (∀ (r : Nat) (ls st : List Value) (G : mc_H), mc_ev X 74 92 ls (.ref r :: st) G = (mc_getf G r 7 0).bind (fun v => mc_ev X 74 95 ls (v :: st) G)) ∧
  (∀ (r : Nat) (ls st : List Value) (G : mc_H), mc_ev X 74 95 ls (.ref r :: st) G = (mc_getf G r 4 0).bind (fun v => mc_ev X 74 98 ls (v :: st) G)) ∧
  (∀ (r : Nat) (ls st : List Value) (G : mc_H), mc_ev X 74 98 ls (.ref r :: st) G = (mc_getf G r 0 9).bind (fun v => mc_ev X 74 101 ls (v :: st) G)) ∧
  (∀ (v0 v2 : Value) (x : Int32) (st : List Value) (G : mc_H), mc_ev X 74 101 [v0, .int x, v2] st G = mc_ev X 74 102 [v0, .int x, v2] (.int x :: st) G) ∧
  (∀ (i : Int32) (r : Value) (ls st : List Value) (G : mc_H), mc_ev X 74 102 ls (.int i :: r :: st) G = (mc_getA X G 0 r i).bind (fun x => mc_ev X 74 103 ls (.int x :: st) G)) ∧
  (∀ (v : Int32) (ls : List Value) (G : mc_H), mc_ev X 74 103 ls [.int v] G = some (some (.int v), G)) ∧
  (∀ (v1 v2 : Value) (x : Nat) (st : List Value) (G : mc_H), mc_ev X 74 104 [.ref x, v1, v2] st G = mc_ev X 74 105 [.ref x, v1, v2] (.ref x :: st) G) ∧
  (∀ (r : Nat) (ls st : List Value) (G : mc_H), mc_ev X 74 105 ls (.ref r :: st) G = (mc_getf G r 7 0).bind (fun v => mc_ev X 74 108 ls (v :: st) G)) ∧
  (∀ (r : Nat) (ls st : List Value) (G : mc_H), mc_ev X 74 108 ls (.ref r :: st) G = (mc_getf G r 4 1).bind (fun v => mc_ev X 74 111 ls (v :: st) G)) ∧
  (∀ (r : Nat) (ls st : List Value) (G : mc_H), mc_ev X 74 111 ls (.ref r :: st) G = (mc_getf G r 5 4).bind (fun v => mc_ev X 74 114 ls (v :: st) G)) ∧
  (∀ (v0 v2 : Value) (x : Int32) (st : List Value) (G : mc_H), mc_ev X 74 114 [v0, .int x, v2] st G = mc_ev X 74 115 [v0, .int x, v2] (.int x :: st) G) ∧
  (∀ (i : Int32) (r : Value) (ls st : List Value) (G : mc_H), mc_ev X 74 115 ls (.int i :: r :: st) G = (mc_getA X G 0 r i).bind (fun x => mc_ev X 74 116 ls (.int x :: st) G)) ∧
  (∀ (ls st : List Value) (G : mc_H), mc_ev X 74 116 ls st G = mc_ev X 74 119 ls (.int 1000 :: st) G) ∧
  (∀ (x y : Int32) (ls st : List Value) (G : mc_H), mc_ev X 74 119 ls (.int y :: .int x :: st) G = mc_ev X 74 120 ls (.int (x + y) :: st) G) ∧
  (∀ (v : Int32) (ls : List Value) (G : mc_H), mc_ev X 74 120 ls [.int v] G = some (some (.int v), G)) ∧
  (∀ (v1 v2 : Value) (x : Nat) (st : List Value) (G : mc_H), mc_ev X 74 121 [.ref x, v1, v2] st G = mc_ev X 74 122 [.ref x, v1, v2] (.ref x :: st) G) ∧
  (∀ (r : Nat) (ls st : List Value) (G : mc_H), mc_ev X 74 122 ls (.ref r :: st) G = (mc_getf G r 7 0).bind (fun v => mc_ev X 74 125 ls (v :: st) G)) ∧
  (∀ (v0 v2 : Value) (x : Int32) (st : List Value) (G : mc_H), mc_ev X 74 125 [v0, .int x, v2] st G = mc_ev X 74 126 [v0, .int x, v2] (.int x :: st) G) ∧
  (∀ (v1 v2 : Value) (x : Nat) (st : List Value) (G : mc_H), mc_ev X 74 126 [.ref x, v1, v2] st G = mc_ev X 74 127 [.ref x, v1, v2] (.ref x :: st) G) ∧
  (∀ (r : Nat) (ls st : List Value) (G : mc_H), mc_ev X 74 127 ls (.ref r :: st) G = (mc_getf G r 7 0).bind (fun v => mc_ev X 74 130 ls (v :: st) G)) ∧
  (∀ (r : Nat) (ls st : List Value) (G : mc_H), st.length ≤ 4 → mc_cls G r = some 4 → mc_ev X 74 130 ls (.ref r :: st) G = (mc_ev X 33 0 [.ref r, .null] [] G).bind (fun q => mc_ev X 74 133 ls (q.1.toList ++ st) q.2)) ∧
  (∀ (a0 : Int32) (a1 : Int32) (r : Nat) (ls st : List Value) (G : mc_H), st.length ≤ 4 → mc_cls G r = some 4 → mc_ev X 74 133 ls (.int a1 :: .int a0 :: .ref r :: st) G = (mc_ev X 36 0 [.ref r, .int a0, .int a1, .null, .null] [] G).bind (fun q => mc_ev X 74 136 ls (q.1.toList ++ st) q.2)) ∧
  (∀ (a0 : Int32) (ls st : List Value) (G : mc_H), st.length ≤ 4 → mc_ev X 74 136 ls (.int a0 :: st) G = (mc_ev X 103 0 [.int a0] [] G).bind (fun q => mc_ev X 74 139 ls (q.1.toList ++ st) q.2)) ∧
  (∀ (v : Int32) (ls : List Value) (G : mc_H), mc_ev X 74 139 ls [.int v] G = some (some (.int v), G)) ∧
  (∀ (v1 v2 : Value) (x : Nat) (st : List Value) (G : mc_H), mc_ev X 74 140 [.ref x, v1, v2] st G = mc_ev X 74 141 [.ref x, v1, v2] (.ref x :: st) G) ∧
  (∀ (r : Nat) (ls st : List Value) (G : mc_H), mc_ev X 74 141 ls (.ref r :: st) G = (mc_getf G r 7 0).bind (fun v => mc_ev X 74 144 ls (v :: st) G)) ∧
  (∀ (v0 v2 : Value) (x : Int32) (st : List Value) (G : mc_H), mc_ev X 74 144 [v0, .int x, v2] st G = mc_ev X 74 145 [v0, .int x, v2] (.int x :: st) G) ∧
  (∀ (a0 : Int32) (r : Nat) (ls st : List Value) (G : mc_H), st.length ≤ 4 → mc_cls G r = some 4 → mc_ev X 74 145 ls (.int a0 :: .ref r :: st) G = (mc_ev X 35 0 [.ref r, .int a0] [] G).bind (fun q => mc_ev X 74 148 ls (q.1.toList ++ st) q.2)) ∧
  (∀ (v : Int32) (ls : List Value) (G : mc_H), mc_ev X 74 148 ls [.int v] G = some (some (.int v), G)) ∧
  (∀ (ls st : List Value) (G : mc_H), mc_ev X 74 149 ls st G = mc_ev X 74 150 ls (.int (-1) :: st) G) ∧
  (∀ (v : Int32) (ls : List Value) (G : mc_H), mc_ev X 74 150 ls [.int v] G = some (some (.int v), G)) := ⟨fun v1 v2 x st G => ev_aload_n rfl rfl,
  fun v0 v2 x st G => ev_iload_n rfl rfl,
  fun a0 r ls st G hr hG => ev_virt (As := [.int a0]) rfl rfl rfl rfl rfl rfl hr hG,
  fun x ls st G => ev_br rfl rfl,
  fun ls st G => ev_iconst rfl rfl,
  fun v ls G => ev_ireturn rfl rfl,
  fun v0 v1 x st G => ev_iload_n rfl rfl,
  fun ls st G => ev_tabIn rfl (by decide) rfl (by decide) rfl,
  fun ls st G => ev_tabIn rfl (by decide) rfl (by decide) rfl,
  fun ls st G => ev_tabIn rfl (by decide) rfl (by decide) rfl,
  fun ls st G => ev_tabIn rfl (by decide) rfl (by decide) rfl,
  fun ls st G => ev_tabIn rfl (by decide) rfl (by decide) rfl,
  fun ls st G => ev_tabIn rfl (by decide) rfl (by decide) rfl,
  fun ls st G => ev_tabIn rfl (by decide) rfl (by decide) rfl,
  fun x ls st G hx => ev_tabOut rfl rfl hx,
  fun v1 v2 x st G => ev_aload_n rfl rfl,
  fun r ls st G => ev_getfield rfl,
  fun r ls st G => ev_getfield rfl,
  fun r ls st G => ev_getfield rfl,
  fun v0 v2 x st G => ev_iload_n rfl rfl,
  fun i r ls st G => ev_iaload rfl,
  fun v ls G => ev_ireturn rfl rfl,
  fun v1 v2 x st G => ev_aload_n rfl rfl,
  fun r ls st G => ev_getfield rfl,
  fun r ls st G => ev_getfield rfl,
  fun r ls st G => ev_getfield rfl,
  fun v0 v2 x st G => ev_iload_n rfl rfl,
  fun i r ls st G => ev_iaload rfl,
  fun v ls G => ev_ireturn rfl rfl,
  fun v1 v2 x st G => ev_aload_n rfl rfl,
  fun r ls st G => ev_getfield rfl,
  fun r ls st G => ev_getfield rfl,
  fun r ls st G => ev_getfield rfl,
  fun v0 v2 x st G => ev_iload_n rfl rfl,
  fun i r ls st G => ev_iaload rfl,
  fun v ls G => ev_ireturn rfl rfl,
  fun v1 v2 x st G => ev_aload_n rfl rfl,
  fun r ls st G => ev_getfield rfl,
  fun r ls st G => ev_getfield rfl,
  fun r ls st G => ev_getfield rfl,
  fun v0 v2 x st G => ev_iload_n rfl rfl,
  fun i r ls st G => ev_iaload rfl,
  fun v ls G => ev_ireturn rfl rfl,
  fun v1 v2 x st G => ev_aload_n rfl rfl,
  fun r ls st G => ev_getfield rfl,
  fun r ls st G => ev_getfield rfl,
  fun r ls st G => ev_getfield rfl,
  fun v0 v2 x st G => ev_iload_n rfl rfl,
  fun i r ls st G => ev_iaload rfl,
  fun ls st G => ev_sipush rfl rfl,
  fun x y ls st G => ev_iadd rfl,
  fun v ls G => ev_ireturn rfl rfl,
  fun v1 v2 x st G => ev_aload_n rfl rfl,
  fun r ls st G => ev_getfield rfl,
  fun v0 v2 x st G => ev_iload_n rfl rfl,
  fun v1 v2 x st G => ev_aload_n rfl rfl,
  fun r ls st G => ev_getfield rfl,
  fun r ls st G hr hG => ev_virt (As := []) rfl rfl rfl rfl rfl rfl hr hG,
  fun a0 a1 r ls st G hr hG => ev_virt (As := [.int a0, .int a1]) rfl rfl rfl rfl rfl rfl hr hG,
  fun a0 ls st G hr => ev_stat (As := [.int a0]) rfl (by decide) rfl rfl rfl rfl hr,
  fun v ls G => ev_ireturn rfl rfl,
  fun v1 v2 x st G => ev_aload_n rfl rfl,
  fun r ls st G => ev_getfield rfl,
  fun v0 v2 x st G => ev_iload_n rfl rfl,
  fun a0 r ls st G hr hG => ev_virt (As := [.int a0]) rfl rfl rfl rfl rfl rfl hr hG,
  fun v ls G => ev_ireturn rfl rfl,
  fun ls st G => ev_iconst rfl rfl,
  fun v ls G => ev_ireturn rfl rfl⟩
theorem e_75 {X : mc_X} : (∀ (x : Nat) (st : List Value) (G : mc_H), mc_ev X 75 0 [.ref x] st G = mc_ev X 75 1 [.ref x] (.ref x :: st) G) ∧
  (∀ (r : Nat) (ls st : List Value) (G : mc_H), mc_ev X 75 1 ls (.ref r :: st) G = (mc_getf G r 7 0).bind (fun v => mc_ev X 75 4 ls (v :: st) G)) ∧
  (∀ (r : Nat) (ls st : List Value) (G : mc_H), st.length ≤ 4 → mc_cls G r = some 4 → mc_ev X 75 4 ls (.ref r :: st) G = (mc_ev X 38 0 [.ref r] [] G).bind (fun q => mc_ev X 75 7 ls (q.1.toList ++ st) q.2)) ∧
  (∀ (v : Int32) (ls : List Value) (G : mc_H), mc_ev X 75 7 ls [.int v] G = some (some (.int v), G)) := ⟨fun  x st G => ev_aload_n rfl rfl,
  fun r ls st G => ev_getfield rfl,
  fun r ls st G hr hG => ev_virt (As := []) rfl rfl rfl rfl rfl rfl hr hG,
  fun v ls G => ev_ireturn rfl rfl⟩
theorem e_76 {X : mc_X} : (∀ (v1 : Value) (x : Nat) (st : List Value) (G : mc_H), mc_ev X 76 0 [.ref x, v1] st G = mc_ev X 76 1 [.ref x, v1] (.ref x :: st) G) ∧
  (∀ (v0 : Value) (x : Int32) (st : List Value) (G : mc_H), mc_ev X 76 1 [v0, .int x] st G = mc_ev X 76 2 [v0, .int x] (.int x :: st) G) ∧
  (∀ (a0 : Int32) (r : Nat) (ls st : List Value) (G : mc_H), st.length ≤ 4 → mc_cls G r = some 7 → mc_ev X 76 2 ls (.int a0 :: .ref r :: st) G = (mc_ev X 98 0 [.ref r, .int a0] [] G).bind (fun q => mc_ev X 76 5 ls (q.1.toList ++ st) q.2)) ∧
  (∀ (x : Int32) (ls st : List Value) (G : mc_H), mc_ev X 76 5 ls (.int x :: st) G = if x = 0 then mc_ev X 76 10 ls st G else mc_ev X 76 8 ls st G) ∧
  (∀ (ls st : List Value) (G : mc_H), mc_ev X 76 8 ls st G = mc_ev X 76 9 ls (.int (-1) :: st) G) ∧
  (∀ (v : Int32) (ls : List Value) (G : mc_H), mc_ev X 76 9 ls [.int v] G = some (some (.int v), G)) ∧
  (∀ (v1 : Value) (x : Nat) (st : List Value) (G : mc_H), mc_ev X 76 10 [.ref x, v1] st G = mc_ev X 76 11 [.ref x, v1] (.ref x :: st) G) ∧
  (∀ (r : Nat) (ls st : List Value) (G : mc_H), mc_ev X 76 11 ls (.ref r :: st) G = (mc_getf G r 7 0).bind (fun v => mc_ev X 76 14 ls (v :: st) G)) ∧
  (∀ (r : Nat) (ls st : List Value) (G : mc_H), st.length ≤ 4 → mc_cls G r = some 4 → mc_ev X 76 14 ls (.ref r :: st) G = (mc_ev X 44 0 [.ref r, .null, .null] [] G).bind (fun q => mc_ev X 76 17 ls (q.1.toList ++ st) q.2)) ∧
  (∀ (v0 : Value) (x : Int32) (st : List Value) (G : mc_H), mc_ev X 76 17 [v0, .int x] st G = mc_ev X 76 18 [v0, .int x] (.int x :: st) G) ∧
  (∀ (x y : Int32) (ls st : List Value) (G : mc_H), mc_ev X 76 18 ls (.int y :: .int x :: st) G = mc_ev X 76 19 ls (.int (x >>> (y &&& 31)) :: st) G) ∧
  (∀ (ls st : List Value) (G : mc_H), mc_ev X 76 19 ls st G = mc_ev X 76 20 ls (.int 1 :: st) G) ∧
  (∀ (x y : Int32) (ls st : List Value) (G : mc_H), mc_ev X 76 20 ls (.int y :: .int x :: st) G = mc_ev X 76 21 ls (.int (x &&& y) :: st) G) ∧
  (∀ (v : Int32) (ls : List Value) (G : mc_H), mc_ev X 76 21 ls [.int v] G = some (some (.int v), G)) := ⟨fun v1 x st G => ev_aload_n rfl rfl,
  fun v0 x st G => ev_iload_n rfl rfl,
  fun a0 r ls st G hr hG => ev_virt (As := [.int a0]) rfl rfl rfl rfl rfl rfl hr hG,
  fun x ls st G => ev_br rfl rfl,
  fun ls st G => ev_iconst rfl rfl,
  fun v ls G => ev_ireturn rfl rfl,
  fun v1 x st G => ev_aload_n rfl rfl,
  fun r ls st G => ev_getfield rfl,
  fun r ls st G hr hG => ev_virt (As := []) rfl rfl rfl rfl rfl rfl hr hG,
  fun v0 x st G => ev_iload_n rfl rfl,
  fun x y ls st G => ev_ishr rfl,
  fun ls st G => ev_iconst rfl rfl,
  fun x y ls st G => ev_iand rfl,
  fun v ls G => ev_ireturn rfl rfl⟩
theorem e_77 {X : mc_X} : (∀ (v1 v2 : Value) (x : Nat) (st : List Value) (G : mc_H), mc_ev X 77 0 [.ref x, v1, v2] st G = mc_ev X 77 1 [.ref x, v1, v2] (.ref x :: st) G) ∧
  (∀ (v0 v2 : Value) (x : Int32) (st : List Value) (G : mc_H), mc_ev X 77 1 [v0, .int x, v2] st G = mc_ev X 77 2 [v0, .int x, v2] (.int x :: st) G) ∧
  (∀ (a0 : Int32) (r : Nat) (ls st : List Value) (G : mc_H), st.length ≤ 4 → mc_cls G r = some 7 → mc_ev X 77 2 ls (.int a0 :: .ref r :: st) G = (mc_ev X 98 0 [.ref r, .int a0] [] G).bind (fun q => mc_ev X 77 5 ls (q.1.toList ++ st) q.2)) ∧
  (∀ (x : Int32) (ls st : List Value) (G : mc_H), mc_ev X 77 5 ls (.int x :: st) G = if x = 0 then mc_ev X 77 8 ls st G else mc_ev X 77 16 ls st G) ∧
  (∀ (v1 v2 : Value) (x : Nat) (st : List Value) (G : mc_H), mc_ev X 77 8 [.ref x, v1, v2] st G = mc_ev X 77 9 [.ref x, v1, v2] (.ref x :: st) G) ∧
  (∀ (v0 v1 : Value) (x : Int32) (st : List Value) (G : mc_H), mc_ev X 77 9 [v0, v1, .int x] st G = mc_ev X 77 10 [v0, v1, .int x] (.int x :: st) G) ∧
  (∀ (a0 : Int32) (r : Nat) (ls st : List Value) (G : mc_H), st.length ≤ 4 → mc_cls G r = some 7 → mc_ev X 77 10 ls (.int a0 :: .ref r :: st) G = (mc_ev X 98 0 [.ref r, .int a0] [] G).bind (fun q => mc_ev X 77 13 ls (q.1.toList ++ st) q.2)) ∧
  (∀ (x : Int32) (ls st : List Value) (G : mc_H), mc_ev X 77 13 ls (.int x :: st) G = if x = 0 then mc_ev X 77 18 ls st G else mc_ev X 77 16 ls st G) ∧
  (∀ (ls st : List Value) (G : mc_H), mc_ev X 77 16 ls st G = mc_ev X 77 17 ls (.int (-1) :: st) G) ∧
  (∀ (v : Int32) (ls : List Value) (G : mc_H), mc_ev X 77 17 ls [.int v] G = some (some (.int v), G)) ∧
  (∀ (v1 v2 : Value) (x : Nat) (st : List Value) (G : mc_H), mc_ev X 77 18 [.ref x, v1, v2] st G = mc_ev X 77 19 [.ref x, v1, v2] (.ref x :: st) G) ∧
  (∀ (r : Nat) (ls st : List Value) (G : mc_H), mc_ev X 77 19 ls (.ref r :: st) G = (mc_getf G r 7 3).bind (fun v => mc_ev X 77 22 ls (v :: st) G)) ∧
  (∀ (v1 v2 : Value) (x : Nat) (st : List Value) (G : mc_H), mc_ev X 77 22 [.ref x, v1, v2] st G = mc_ev X 77 23 [.ref x, v1, v2] (.ref x :: st) G) ∧
  (∀ (r : Nat) (ls st : List Value) (G : mc_H), mc_ev X 77 23 ls (.ref r :: st) G = (mc_getf G r 7 0).bind (fun v => mc_ev X 77 26 ls (v :: st) G)) ∧
  (∀ (a0 : Nat) (r : Nat) (ls st : List Value) (G : mc_H), st.length ≤ 4 → mc_cls G r = some 3 → mc_ev X 77 26 ls (.ref a0 :: .ref r :: st) G = (mc_ev X 20 0 [.ref r, .ref a0, .null] [] G).bind (fun q => mc_ev X 77 29 ls (q.1.toList ++ st) q.2)) ∧
  (∀ (v1 v2 : Value) (x : Nat) (st : List Value) (G : mc_H), mc_ev X 77 29 [.ref x, v1, v2] st G = mc_ev X 77 30 [.ref x, v1, v2] (.ref x :: st) G) ∧
  (∀ (r : Nat) (ls st : List Value) (G : mc_H), mc_ev X 77 30 ls (.ref r :: st) G = (mc_getf G r 7 3).bind (fun v => mc_ev X 77 33 ls (v :: st) G)) ∧
  (∀ (v0 v2 : Value) (x : Int32) (st : List Value) (G : mc_H), mc_ev X 77 33 [v0, .int x, v2] st G = mc_ev X 77 34 [v0, .int x, v2] (.int x :: st) G) ∧
  (∀ (v0 v1 : Value) (x : Int32) (st : List Value) (G : mc_H), mc_ev X 77 34 [v0, v1, .int x] st G = mc_ev X 77 35 [v0, v1, .int x] (.int x :: st) G) ∧
  (∀ (a0 : Int32) (a1 : Int32) (r : Nat) (ls st : List Value) (G : mc_H), st.length ≤ 4 → mc_cls G r = some 3 → mc_ev X 77 35 ls (.int a1 :: .int a0 :: .ref r :: st) G = (mc_ev X 19 0 [.ref r, .int a0, .int a1] [] G).bind (fun q => mc_ev X 77 38 ls (q.1.toList ++ st) q.2)) ∧
  (∀ (v : Int32) (ls : List Value) (G : mc_H), mc_ev X 77 38 ls [.int v] G = some (some (.int v), G)) := ⟨fun v1 v2 x st G => ev_aload_n rfl rfl,
  fun v0 v2 x st G => ev_iload_n rfl rfl,
  fun a0 r ls st G hr hG => ev_virt (As := [.int a0]) rfl rfl rfl rfl rfl rfl hr hG,
  fun x ls st G => ev_br rfl rfl,
  fun v1 v2 x st G => ev_aload_n rfl rfl,
  fun v0 v1 x st G => ev_iload_n rfl rfl,
  fun a0 r ls st G hr hG => ev_virt (As := [.int a0]) rfl rfl rfl rfl rfl rfl hr hG,
  fun x ls st G => ev_br rfl rfl,
  fun ls st G => ev_iconst rfl rfl,
  fun v ls G => ev_ireturn rfl rfl,
  fun v1 v2 x st G => ev_aload_n rfl rfl,
  fun r ls st G => ev_getfield rfl,
  fun v1 v2 x st G => ev_aload_n rfl rfl,
  fun r ls st G => ev_getfield rfl,
  fun a0 r ls st G hr hG => ev_virt (As := [.ref a0]) rfl rfl rfl rfl rfl rfl hr hG,
  fun v1 v2 x st G => ev_aload_n rfl rfl,
  fun r ls st G => ev_getfield rfl,
  fun v0 v2 x st G => ev_iload_n rfl rfl,
  fun v0 v1 x st G => ev_iload_n rfl rfl,
  fun a0 a1 r ls st G hr hG => ev_virt (As := [.int a0, .int a1]) rfl rfl rfl rfl rfl rfl hr hG,
  fun v ls G => ev_ireturn rfl rfl⟩
theorem e_78 {X : mc_X} : (∀ (x : Nat) (st : List Value) (G : mc_H), mc_ev X 78 0 [.ref x] st G = mc_ev X 78 1 [.ref x] (.ref x :: st) G) ∧
  (∀ (r : Nat) (ls st : List Value) (G : mc_H), mc_ev X 78 1 ls (.ref r :: st) G = (mc_getf G r 7 0).bind (fun v => mc_ev X 78 4 ls (v :: st) G)) ∧
  (∀ (r : Nat) (ls st : List Value) (G : mc_H), st.length ≤ 4 → mc_cls G r = some 4 → mc_ev X 78 4 ls (.ref r :: st) G = (mc_ev X 32 0 [.ref r, .null, .null] [] G).bind (fun q => mc_ev X 78 7 ls (q.1.toList ++ st) q.2)) ∧
  (∀ (x : Int32) (ls st : List Value) (G : mc_H), mc_ev X 78 7 ls (.int x :: st) G = if x = 0 then mc_ev X 78 13 ls st G else mc_ev X 78 10 ls st G) ∧
  (∀ (ls st : List Value) (G : mc_H), mc_ev X 78 10 ls st G = mc_ev X 78 12 ls (.int (-2) :: st) G) ∧
  (∀ (v : Int32) (ls : List Value) (G : mc_H), mc_ev X 78 12 ls [.int v] G = some (some (.int v), G)) ∧
  (∀ (x : Nat) (st : List Value) (G : mc_H), mc_ev X 78 13 [.ref x] st G = mc_ev X 78 14 [.ref x] (.ref x :: st) G) ∧
  (∀ (r : Nat) (ls st : List Value) (G : mc_H), mc_ev X 78 14 ls (.ref r :: st) G = (mc_getf G r 7 3).bind (fun v => mc_ev X 78 17 ls (v :: st) G)) ∧
  (∀ (x : Nat) (st : List Value) (G : mc_H), mc_ev X 78 17 [.ref x] st G = mc_ev X 78 18 [.ref x] (.ref x :: st) G) ∧
  (∀ (r : Nat) (ls st : List Value) (G : mc_H), mc_ev X 78 18 ls (.ref r :: st) G = (mc_getf G r 7 0).bind (fun v => mc_ev X 78 21 ls (v :: st) G)) ∧
  (∀ (a0 : Nat) (r : Nat) (ls st : List Value) (G : mc_H), st.length ≤ 4 → mc_cls G r = some 3 → mc_ev X 78 21 ls (.ref a0 :: .ref r :: st) G = (mc_ev X 20 0 [.ref r, .ref a0, .null] [] G).bind (fun q => mc_ev X 78 24 ls (q.1.toList ++ st) q.2)) ∧
  (∀ (x : Nat) (st : List Value) (G : mc_H), mc_ev X 78 24 [.ref x] st G = mc_ev X 78 25 [.ref x] (.ref x :: st) G) ∧
  (∀ (r : Nat) (ls st : List Value) (G : mc_H), mc_ev X 78 25 ls (.ref r :: st) G = (mc_getf G r 7 3).bind (fun v => mc_ev X 78 28 ls (v :: st) G)) ∧
  (∀ (x : Nat) (st : List Value) (G : mc_H), mc_ev X 78 28 [.ref x] st G = mc_ev X 78 29 [.ref x] (.ref x :: st) G) ∧
  (∀ (r : Nat) (ls st : List Value) (G : mc_H), mc_ev X 78 29 ls (.ref r :: st) G = (mc_getf G r 7 0).bind (fun v => mc_ev X 78 32 ls (v :: st) G)) ∧
  (∀ (r : Nat) (ls st : List Value) (G : mc_H), st.length ≤ 4 → mc_cls G r = some 4 → mc_ev X 78 32 ls (.ref r :: st) G = (mc_ev X 44 0 [.ref r, .null, .null] [] G).bind (fun q => mc_ev X 78 35 ls (q.1.toList ++ st) q.2)) ∧
  (∀ (a0 : Int32) (r : Nat) (ls st : List Value) (G : mc_H), st.length ≤ 4 → mc_cls G r = some 3 → mc_ev X 78 35 ls (.int a0 :: .ref r :: st) G = (mc_ev X 23 0 [.ref r, .int a0, .null] [] G).bind (fun q => mc_ev X 78 38 ls (q.1.toList ++ st) q.2)) ∧
  (∀ (v : Int32) (ls : List Value) (G : mc_H), mc_ev X 78 38 ls [.int v] G = some (some (.int v), G)) := ⟨fun  x st G => ev_aload_n rfl rfl,
  fun r ls st G => ev_getfield rfl,
  fun r ls st G hr hG => ev_virt (As := []) rfl rfl rfl rfl rfl rfl hr hG,
  fun x ls st G => ev_br rfl rfl,
  fun ls st G => ev_bipush rfl rfl,
  fun v ls G => ev_ireturn rfl rfl,
  fun  x st G => ev_aload_n rfl rfl,
  fun r ls st G => ev_getfield rfl,
  fun  x st G => ev_aload_n rfl rfl,
  fun r ls st G => ev_getfield rfl,
  fun a0 r ls st G hr hG => ev_virt (As := [.ref a0]) rfl rfl rfl rfl rfl rfl hr hG,
  fun  x st G => ev_aload_n rfl rfl,
  fun r ls st G => ev_getfield rfl,
  fun  x st G => ev_aload_n rfl rfl,
  fun r ls st G => ev_getfield rfl,
  fun r ls st G hr hG => ev_virt (As := []) rfl rfl rfl rfl rfl rfl hr hG,
  fun a0 r ls st G hr hG => ev_virt (As := [.int a0]) rfl rfl rfl rfl rfl rfl hr hG,
  fun v ls G => ev_ireturn rfl rfl⟩
theorem e_79 {X : mc_X} : (∀ (v1 : Value) (x : Nat) (st : List Value) (G : mc_H), mc_ev X 79 0 [.ref x, v1] st G = mc_ev X 79 1 [.ref x, v1] (.ref x :: st) G) ∧
  (∀ (v0 : Value) (x : Int32) (st : List Value) (G : mc_H), mc_ev X 79 1 [v0, .int x] st G = mc_ev X 79 2 [v0, .int x] (.int x :: st) G) ∧
  (∀ (a0 : Int32) (r : Nat) (ls st : List Value) (G : mc_H), st.length ≤ 4 → mc_cls G r = some 7 → mc_ev X 79 2 ls (.int a0 :: .ref r :: st) G = (mc_ev X 99 0 [.ref r, .int a0] [] G).bind (fun q => mc_ev X 79 5 ls (q.1.toList ++ st) q.2)) ∧
  (∀ (x : Int32) (ls st : List Value) (G : mc_H), mc_ev X 79 5 ls (.int x :: st) G = if x = 0 then mc_ev X 79 10 ls st G else mc_ev X 79 8 ls st G) ∧
  (∀ (ls st : List Value) (G : mc_H), mc_ev X 79 8 ls st G = mc_ev X 79 9 ls (.int (-1) :: st) G) ∧
  (∀ (v : Int32) (ls : List Value) (G : mc_H), mc_ev X 79 9 ls [.int v] G = some (some (.int v), G)) ∧
  (∀ (v1 : Value) (x : Nat) (st : List Value) (G : mc_H), mc_ev X 79 10 [.ref x, v1] st G = mc_ev X 79 11 [.ref x, v1] (.ref x :: st) G) ∧
  (∀ (r : Nat) (ls st : List Value) (G : mc_H), mc_ev X 79 11 ls (.ref r :: st) G = (mc_getf G r 7 0).bind (fun v => mc_ev X 79 14 ls (v :: st) G)) ∧
  (∀ (v0 : Value) (x : Int32) (st : List Value) (G : mc_H), mc_ev X 79 14 [v0, .int x] st G = mc_ev X 79 15 [v0, .int x] (.int x :: st) G) ∧
  (∀ (a0 : Int32) (r : Nat) (ls st : List Value) (G : mc_H), st.length ≤ 4 → mc_cls G r = some 4 → mc_ev X 79 15 ls (.int a0 :: .ref r :: st) G = (mc_ev X 37 0 [.ref r, .int a0, .null, .null] [] G).bind (fun q => mc_ev X 79 18 ls (q.1.toList ++ st) q.2)) ∧
  (∀ (v : Int32) (ls : List Value) (G : mc_H), mc_ev X 79 18 ls [.int v] G = some (some (.int v), G)) := ⟨fun v1 x st G => ev_aload_n rfl rfl,
  fun v0 x st G => ev_iload_n rfl rfl,
  fun a0 r ls st G hr hG => ev_virt (As := [.int a0]) rfl rfl rfl rfl rfl rfl hr hG,
  fun x ls st G => ev_br rfl rfl,
  fun ls st G => ev_iconst rfl rfl,
  fun v ls G => ev_ireturn rfl rfl,
  fun v1 x st G => ev_aload_n rfl rfl,
  fun r ls st G => ev_getfield rfl,
  fun v0 x st G => ev_iload_n rfl rfl,
  fun a0 r ls st G hr hG => ev_virt (As := [.int a0]) rfl rfl rfl rfl rfl rfl hr hG,
  fun v ls G => ev_ireturn rfl rfl⟩
theorem e_80 {X : mc_X} : (∀ (x : Nat) (st : List Value) (G : mc_H), mc_ev X 80 0 [.ref x] st G = mc_ev X 80 1 [.ref x] (.ref x :: st) G) ∧
  (∀ (r : Nat) (ls st : List Value) (G : mc_H), st.length ≤ 4 → mc_cls G r = some 7 → mc_ev X 80 1 ls (.ref r :: st) G = (mc_ev X 110 0 [.ref r] [] G).bind (fun q => mc_ev X 80 4 ls (q.1.toList ++ st) q.2)) ∧
  (∀ (r : Nat) (ls st : List Value) (G : mc_H), mc_ev X 80 4 ls (.ref r :: st) G = (mc_getf G r 2 5).bind (fun v => mc_ev X 80 7 ls (v :: st) G)) ∧
  (∀ (v : Int32) (ls : List Value) (G : mc_H), mc_ev X 80 7 ls [.int v] G = some (some (.int v), G)) := ⟨fun  x st G => ev_aload_n rfl rfl,
  fun r ls st G hr hG => ev_virt (As := []) rfl rfl rfl rfl rfl rfl hr hG,
  fun r ls st G => ev_getfield rfl,
  fun v ls G => ev_ireturn rfl rfl⟩
theorem e_81 {X : mc_X} : (∀ (v1 : Value) (x : Nat) (st : List Value) (G : mc_H), mc_ev X 81 0 [.ref x, v1] st G = mc_ev X 81 1 [.ref x, v1] (.ref x :: st) G) ∧
  (∀ (r : Nat) (ls st : List Value) (G : mc_H), st.length ≤ 4 → mc_cls G r = some 7 → mc_ev X 81 1 ls (.ref r :: st) G = (mc_ev X 110 0 [.ref r] [] G).bind (fun q => mc_ev X 81 4 ls (q.1.toList ++ st) q.2)) ∧
  (∀ (v0 v1 : Value) (x : Nat) (st : List Value) (G : mc_H), mc_ev X 81 4 [v0, v1] (.ref x :: st) G = mc_ev X 81 5 [v0, .ref x] st G) ∧
  (∀ (v0 : Value) (x : Nat) (st : List Value) (G : mc_H), mc_ev X 81 5 [v0, .ref x] st G = mc_ev X 81 6 [v0, .ref x] (.ref x :: st) G) ∧
  (∀ (v0 : Value) (x : Nat) (st : List Value) (G : mc_H), mc_ev X 81 6 [v0, .ref x] st G = mc_ev X 81 7 [v0, .ref x] (.ref x :: st) G) ∧
  (∀ (r : Nat) (ls st : List Value) (G : mc_H), mc_ev X 81 7 ls (.ref r :: st) G = (mc_getf G r 2 5).bind (fun v => mc_ev X 81 10 ls (v :: st) G)) ∧
  (∀ (a0 : Int32) (r : Nat) (ls st : List Value) (G : mc_H), st.length ≤ 4 → mc_cls G r = some 2 → mc_ev X 81 10 ls (.int a0 :: .ref r :: st) G = (mc_ev X 14 0 [.ref r, .int a0, .null, .null] [] G).bind (fun q => mc_ev X 81 13 ls (q.1.toList ++ st) q.2)) ∧
  (∀ (v : Int32) (ls : List Value) (G : mc_H), mc_ev X 81 13 ls [.int v] G = some (some (.int v), G)) := ⟨fun v1 x st G => ev_aload_n rfl rfl,
  fun r ls st G hr hG => ev_virt (As := []) rfl rfl rfl rfl rfl rfl hr hG,
  fun v0 v1 x st G => ev_astore_n (X := X) (k := 81) (pc := 4) (ls := [v0, v1]) (st := st) (G := G) (j := 1) (x := x) rfl (Nat.le_of_ble_eq_true rfl),
  fun v0 x st G => ev_aload_n rfl rfl,
  fun v0 x st G => ev_aload_n rfl rfl,
  fun r ls st G => ev_getfield rfl,
  fun a0 r ls st G hr hG => ev_virt (As := [.int a0]) rfl rfl rfl rfl rfl rfl hr hG,
  fun v ls G => ev_ireturn rfl rfl⟩
theorem e_82 {X : mc_X} : (∀ (v0 v2 : Value) (x : Int32) (st : List Value) (G : mc_H), mc_ev X 82 0 [v0, .int x, v2] st G = mc_ev X 82 1 [v0, .int x, v2] (.int x :: st) G) ∧
  (∀ (x : Int32) (ls st : List Value) (G : mc_H), mc_ev X 82 1 ls (.int x :: st) G = if x < 0 then mc_ev X 82 4 ls st G else mc_ev X 82 6 ls st G) ∧
  (∀ (ls st : List Value) (G : mc_H), mc_ev X 82 4 ls st G = mc_ev X 82 5 ls (.int (-1) :: st) G) ∧
  (∀ (v : Int32) (ls : List Value) (G : mc_H), mc_ev X 82 5 ls [.int v] G = some (some (.int v), G)) ∧
  (∀ (v1 v2 : Value) (x : Nat) (st : List Value) (G : mc_H), mc_ev X 82 6 [.ref x, v1, v2] st G = mc_ev X 82 7 [.ref x, v1, v2] (.ref x :: st) G) ∧
  (∀ (r : Nat) (ls st : List Value) (G : mc_H), st.length ≤ 4 → mc_cls G r = some 7 → mc_ev X 82 7 ls (.ref r :: st) G = (mc_ev X 110 0 [.ref r] [] G).bind (fun q => mc_ev X 82 10 ls (q.1.toList ++ st) q.2)) ∧
  (∀ (v0 v1 v2 : Value) (x : Nat) (st : List Value) (G : mc_H), mc_ev X 82 10 [v0, v1, v2] (.ref x :: st) G = mc_ev X 82 11 [v0, v1, .ref x] st G) ∧
  (∀ (v0 v1 : Value) (x : Nat) (st : List Value) (G : mc_H), mc_ev X 82 11 [v0, v1, .ref x] st G = mc_ev X 82 12 [v0, v1, .ref x] (.ref x :: st) G) ∧
  (∀ (v0 v1 : Value) (x : Nat) (st : List Value) (G : mc_H), mc_ev X 82 12 [v0, v1, .ref x] st G = mc_ev X 82 13 [v0, v1, .ref x] (.ref x :: st) G) ∧
  (∀ (r : Nat) (ls st : List Value) (G : mc_H), mc_ev X 82 13 ls (.ref r :: st) G = (mc_getf G r 2 5).bind (fun v => mc_ev X 82 16 ls (v :: st) G)) ∧
  (∀ (v0 v2 : Value) (x : Int32) (st : List Value) (G : mc_H), mc_ev X 82 16 [v0, .int x, v2] st G = mc_ev X 82 17 [v0, .int x, v2] (.int x :: st) G) ∧
  (∀ (a0 : Int32) (a1 : Int32) (r : Nat) (ls st : List Value) (G : mc_H), st.length ≤ 4 → mc_cls G r = some 2 → mc_ev X 82 17 ls (.int a1 :: .int a0 :: .ref r :: st) G = (mc_ev X 15 0 [.ref r, .int a0, .int a1, .null, .null] [] G).bind (fun q => mc_ev X 82 20 ls (q.1.toList ++ st) q.2)) ∧
  (∀ (v : Int32) (ls : List Value) (G : mc_H), mc_ev X 82 20 ls [.int v] G = some (some (.int v), G)) := ⟨fun v0 v2 x st G => ev_iload_n rfl rfl,
  fun x ls st G => ev_br rfl rfl,
  fun ls st G => ev_iconst rfl rfl,
  fun v ls G => ev_ireturn rfl rfl,
  fun v1 v2 x st G => ev_aload_n rfl rfl,
  fun r ls st G hr hG => ev_virt (As := []) rfl rfl rfl rfl rfl rfl hr hG,
  fun v0 v1 v2 x st G => ev_astore_n (X := X) (k := 82) (pc := 10) (ls := [v0, v1, v2]) (st := st) (G := G) (j := 2) (x := x) rfl (Nat.le_of_ble_eq_true rfl),
  fun v0 v1 x st G => ev_aload_n rfl rfl,
  fun v0 v1 x st G => ev_aload_n rfl rfl,
  fun r ls st G => ev_getfield rfl,
  fun v0 v2 x st G => ev_iload_n rfl rfl,
  fun a0 a1 r ls st G hr hG => ev_virt (As := [.int a0, .int a1]) rfl rfl rfl rfl rfl rfl hr hG,
  fun v ls G => ev_ireturn rfl rfl⟩
theorem e_83 {X : mc_X} : (∀ (v1 v2 v3 : Value) (x : Nat) (st : List Value) (G : mc_H), mc_ev X 83 0 [.ref x, v1, v2, v3] st G = mc_ev X 83 1 [.ref x, v1, v2, v3] (.ref x :: st) G) ∧
  (∀ (v0 v2 v3 : Value) (x : Int32) (st : List Value) (G : mc_H), mc_ev X 83 1 [v0, .int x, v2, v3] st G = mc_ev X 83 2 [v0, .int x, v2, v3] (.int x :: st) G) ∧
  (∀ (a0 : Int32) (r : Nat) (ls st : List Value) (G : mc_H), st.length ≤ 4 → mc_cls G r = some 7 → mc_ev X 83 2 ls (.int a0 :: .ref r :: st) G = (mc_ev X 97 0 [.ref r, .int a0] [] G).bind (fun q => mc_ev X 83 5 ls (q.1.toList ++ st) q.2)) ∧
  (∀ (x : Int32) (ls st : List Value) (G : mc_H), mc_ev X 83 5 ls (.int x :: st) G = if x = 0 then mc_ev X 83 11 ls st G else mc_ev X 83 8 ls st G) ∧
  (∀ (ls st : List Value) (G : mc_H), mc_ev X 83 8 ls st G = mc_ev X 83 10 ls (.int (-1000000) :: st) G) ∧
  (∀ (v : Int32) (ls : List Value) (G : mc_H), mc_ev X 83 10 ls [.int v] G = some (some (.int v), G)) ∧
  (∀ (v1 v2 v3 : Value) (x : Nat) (st : List Value) (G : mc_H), mc_ev X 83 11 [.ref x, v1, v2, v3] st G = mc_ev X 83 12 [.ref x, v1, v2, v3] (.ref x :: st) G) ∧
  (∀ (r : Nat) (ls st : List Value) (G : mc_H), mc_ev X 83 12 ls (.ref r :: st) G = (mc_getf G r 7 0).bind (fun v => mc_ev X 83 15 ls (v :: st) G)) ∧
  (∀ (v1 v2 v3 : Value) (x : Nat) (st : List Value) (G : mc_H), mc_ev X 83 15 [.ref x, v1, v2, v3] st G = mc_ev X 83 16 [.ref x, v1, v2, v3] (.ref x :: st) G) ∧
  (∀ (r : Nat) (ls st : List Value) (G : mc_H), mc_ev X 83 16 ls (.ref r :: st) G = (mc_getf G r 7 0).bind (fun v => mc_ev X 83 19 ls (v :: st) G)) ∧
  (∀ (r : Nat) (ls st : List Value) (G : mc_H), mc_ev X 83 19 ls (.ref r :: st) G = (mc_getf G r 4 0).bind (fun v => mc_ev X 83 22 ls (v :: st) G)) ∧
  (∀ (r : Nat) (ls st : List Value) (G : mc_H), mc_ev X 83 22 ls (.ref r :: st) G = (mc_getf G r 0 6).bind (fun v => mc_ev X 83 25 ls (v :: st) G)) ∧
  (∀ (v0 v2 v3 : Value) (x : Int32) (st : List Value) (G : mc_H), mc_ev X 83 25 [v0, .int x, v2, v3] st G = mc_ev X 83 26 [v0, .int x, v2, v3] (.int x :: st) G) ∧
  (∀ (i : Int32) (r : Value) (ls st : List Value) (G : mc_H), mc_ev X 83 26 ls (.int i :: r :: st) G = (mc_getA X G 0 r i).bind (fun x => mc_ev X 83 27 ls (.int x :: st) G)) ∧
  (∀ (a0 : Int32) (r : Nat) (ls st : List Value) (G : mc_H), st.length ≤ 4 → mc_cls G r = some 4 → mc_ev X 83 27 ls (.int a0 :: .ref r :: st) G = (mc_ev X 28 0 [.ref r, .int a0] [] G).bind (fun q => mc_ev X 83 30 ls (q.1.toList ++ st) q.2)) ∧
  (∀ (v0 v1 v2 v3 : Value) (x : Int32) (st : List Value) (G : mc_H), mc_ev X 83 30 [v0, v1, v2, v3] (.int x :: st) G = mc_ev X 83 31 [v0, v1, .int x, v3] st G) ∧
  (∀ (v1 v2 v3 : Value) (x : Nat) (st : List Value) (G : mc_H), mc_ev X 83 31 [.ref x, v1, v2, v3] st G = mc_ev X 83 32 [.ref x, v1, v2, v3] (.ref x :: st) G) ∧
  (∀ (r : Nat) (ls st : List Value) (G : mc_H), mc_ev X 83 32 ls (.ref r :: st) G = (mc_getf G r 7 0).bind (fun v => mc_ev X 83 35 ls (v :: st) G)) ∧
  (∀ (v1 v2 v3 : Value) (x : Nat) (st : List Value) (G : mc_H), mc_ev X 83 35 [.ref x, v1, v2, v3] st G = mc_ev X 83 36 [.ref x, v1, v2, v3] (.ref x :: st) G) ∧
  (∀ (r : Nat) (ls st : List Value) (G : mc_H), mc_ev X 83 36 ls (.ref r :: st) G = (mc_getf G r 7 0).bind (fun v => mc_ev X 83 39 ls (v :: st) G)) ∧
  (∀ (r : Nat) (ls st : List Value) (G : mc_H), mc_ev X 83 39 ls (.ref r :: st) G = (mc_getf G r 4 0).bind (fun v => mc_ev X 83 42 ls (v :: st) G)) ∧
  (∀ (r : Nat) (ls st : List Value) (G : mc_H), mc_ev X 83 42 ls (.ref r :: st) G = (mc_getf G r 0 7).bind (fun v => mc_ev X 83 45 ls (v :: st) G)) ∧
  (∀ (v0 v2 v3 : Value) (x : Int32) (st : List Value) (G : mc_H), mc_ev X 83 45 [v0, .int x, v2, v3] st G = mc_ev X 83 46 [v0, .int x, v2, v3] (.int x :: st) G) ∧
  (∀ (i : Int32) (r : Value) (ls st : List Value) (G : mc_H), mc_ev X 83 46 ls (.int i :: r :: st) G = (mc_getA X G 0 r i).bind (fun x => mc_ev X 83 47 ls (.int x :: st) G)) ∧
  (∀ (a0 : Int32) (r : Nat) (ls st : List Value) (G : mc_H), st.length ≤ 4 → mc_cls G r = some 4 → mc_ev X 83 47 ls (.int a0 :: .ref r :: st) G = (mc_ev X 28 0 [.ref r, .int a0] [] G).bind (fun q => mc_ev X 83 50 ls (q.1.toList ++ st) q.2)) ∧
  (∀ (v0 v1 v2 v3 : Value) (x : Int32) (st : List Value) (G : mc_H), mc_ev X 83 50 [v0, v1, v2, v3] (.int x :: st) G = mc_ev X 83 51 [v0, v1, v2, .int x] st G) ∧
  (∀ (v1 v2 v3 : Value) (x : Nat) (st : List Value) (G : mc_H), mc_ev X 83 51 [.ref x, v1, v2, v3] st G = mc_ev X 83 52 [.ref x, v1, v2, v3] (.ref x :: st) G) ∧
  (∀ (r : Nat) (ls st : List Value) (G : mc_H), st.length ≤ 4 → mc_cls G r = some 7 → mc_ev X 83 52 ls (.ref r :: st) G = (mc_ev X 110 0 [.ref r] [] G).bind (fun q => mc_ev X 83 55 ls (q.1.toList ++ st) q.2)) ∧
  (∀ (v0 v1 v3 : Value) (x : Int32) (st : List Value) (G : mc_H), mc_ev X 83 55 [v0, v1, .int x, v3] st G = mc_ev X 83 56 [v0, v1, .int x, v3] (.int x :: st) G) ∧
  (∀ (v0 v1 v2 : Value) (x : Int32) (st : List Value) (G : mc_H), mc_ev X 83 56 [v0, v1, v2, .int x] st G = mc_ev X 83 57 [v0, v1, v2, .int x] (.int x :: st) G) ∧
  (∀ (a0 : Int32) (a1 : Int32) (r : Nat) (ls st : List Value) (G : mc_H), st.length ≤ 4 → mc_cls G r = some 2 → mc_ev X 83 57 ls (.int a1 :: .int a0 :: .ref r :: st) G = (mc_ev X 17 0 [.ref r, .int a0, .int a1, .null, .null, .null, .null] [] G).bind (fun q => mc_ev X 83 60 ls (q.1.toList ++ st) q.2)) ∧
  (∀ (v : Int32) (ls : List Value) (G : mc_H), mc_ev X 83 60 ls [.int v] G = some (some (.int v), G)) := ⟨fun v1 v2 v3 x st G => ev_aload_n rfl rfl,
  fun v0 v2 v3 x st G => ev_iload_n rfl rfl,
  fun a0 r ls st G hr hG => ev_virt (As := [.int a0]) rfl rfl rfl rfl rfl rfl hr hG,
  fun x ls st G => ev_br rfl rfl,
  fun ls st G => ev_ldc rfl rfl,
  fun v ls G => ev_ireturn rfl rfl,
  fun v1 v2 v3 x st G => ev_aload_n rfl rfl,
  fun r ls st G => ev_getfield rfl,
  fun v1 v2 v3 x st G => ev_aload_n rfl rfl,
  fun r ls st G => ev_getfield rfl,
  fun r ls st G => ev_getfield rfl,
  fun r ls st G => ev_getfield rfl,
  fun v0 v2 v3 x st G => ev_iload_n rfl rfl,
  fun i r ls st G => ev_iaload rfl,
  fun a0 r ls st G hr hG => ev_virt (As := [.int a0]) rfl rfl rfl rfl rfl rfl hr hG,
  fun v0 v1 v2 v3 x st G => ev_istore_n (X := X) (k := 83) (pc := 30) (ls := [v0, v1, v2, v3]) (st := st) (G := G) (j := 2) (x := x) rfl (Nat.le_of_ble_eq_true rfl),
  fun v1 v2 v3 x st G => ev_aload_n rfl rfl,
  fun r ls st G => ev_getfield rfl,
  fun v1 v2 v3 x st G => ev_aload_n rfl rfl,
  fun r ls st G => ev_getfield rfl,
  fun r ls st G => ev_getfield rfl,
  fun r ls st G => ev_getfield rfl,
  fun v0 v2 v3 x st G => ev_iload_n rfl rfl,
  fun i r ls st G => ev_iaload rfl,
  fun a0 r ls st G hr hG => ev_virt (As := [.int a0]) rfl rfl rfl rfl rfl rfl hr hG,
  fun v0 v1 v2 v3 x st G => ev_istore_n (X := X) (k := 83) (pc := 50) (ls := [v0, v1, v2, v3]) (st := st) (G := G) (j := 3) (x := x) rfl (Nat.le_of_ble_eq_true rfl),
  fun v1 v2 v3 x st G => ev_aload_n rfl rfl,
  fun r ls st G hr hG => ev_virt (As := []) rfl rfl rfl rfl rfl rfl hr hG,
  fun v0 v1 v3 x st G => ev_iload_n rfl rfl,
  fun v0 v1 v2 x st G => ev_iload_n rfl rfl,
  fun a0 a1 r ls st G hr hG => ev_virt (As := [.int a0, .int a1]) rfl rfl rfl rfl rfl rfl hr hG,
  fun v ls G => ev_ireturn rfl rfl⟩
theorem e_84 {X : mc_X} : (∀ (v0 : Value) (x : Int32) (st : List Value) (G : mc_H), mc_ev X 84 0 [v0, .int x] st G = mc_ev X 84 1 [v0, .int x] (.int x :: st) G) ∧
  (∀ (x : Int32) (ls st : List Value) (G : mc_H), mc_ev X 84 1 ls (.int x :: st) G = if x < 0 then mc_ev X 84 4 ls st G else mc_ev X 84 6 ls st G) ∧
  (∀ (ls st : List Value) (G : mc_H), mc_ev X 84 4 ls st G = mc_ev X 84 5 ls (.int (-1) :: st) G) ∧
  (∀ (v : Int32) (ls : List Value) (G : mc_H), mc_ev X 84 5 ls [.int v] G = some (some (.int v), G)) ∧
  (∀ (v1 : Value) (x : Nat) (st : List Value) (G : mc_H), mc_ev X 84 6 [.ref x, v1] st G = mc_ev X 84 7 [.ref x, v1] (.ref x :: st) G) ∧
  (∀ (r : Nat) (ls st : List Value) (G : mc_H), st.length ≤ 4 → mc_cls G r = some 7 → mc_ev X 84 7 ls (.ref r :: st) G = (mc_ev X 110 0 [.ref r] [] G).bind (fun q => mc_ev X 84 10 ls (q.1.toList ++ st) q.2)) ∧
  (∀ (v0 : Value) (x : Int32) (st : List Value) (G : mc_H), mc_ev X 84 10 [v0, .int x] st G = mc_ev X 84 11 [v0, .int x] (.int x :: st) G) ∧
  (∀ (a0 : Int32) (r : Nat) (ls st : List Value) (G : mc_H), st.length ≤ 4 → mc_cls G r = some 2 → mc_ev X 84 11 ls (.int a0 :: .ref r :: st) G = (mc_ev X 14 0 [.ref r, .int a0, .null, .null] [] G).bind (fun q => mc_ev X 84 14 ls (q.1.toList ++ st) q.2)) ∧
  (∀ (v : Int32) (ls : List Value) (G : mc_H), mc_ev X 84 14 ls [.int v] G = some (some (.int v), G)) := ⟨fun v0 x st G => ev_iload_n rfl rfl,
  fun x ls st G => ev_br rfl rfl,
  fun ls st G => ev_iconst rfl rfl,
  fun v ls G => ev_ireturn rfl rfl,
  fun v1 x st G => ev_aload_n rfl rfl,
  fun r ls st G hr hG => ev_virt (As := []) rfl rfl rfl rfl rfl rfl hr hG,
  fun v0 x st G => ev_iload_n rfl rfl,
  fun a0 r ls st G hr hG => ev_virt (As := [.int a0]) rfl rfl rfl rfl rfl rfl hr hG,
  fun v ls G => ev_ireturn rfl rfl⟩
theorem e_85 {X : mc_X} : (∀ (v0 v2 : Value) (x : Int32) (st : List Value) (G : mc_H), mc_ev X 85 0 [v0, .int x, v2] st G = mc_ev X 85 1 [v0, .int x, v2] (.int x :: st) G) ∧
  (∀ (x : Int32) (ls st : List Value) (G : mc_H), mc_ev X 85 1 ls (.int x :: st) G = if x < 0 then mc_ev X 85 8 ls st G else mc_ev X 85 4 ls st G) ∧
  (∀ (v0 v1 : Value) (x : Int32) (st : List Value) (G : mc_H), mc_ev X 85 4 [v0, v1, .int x] st G = mc_ev X 85 5 [v0, v1, .int x] (.int x :: st) G) ∧
  (∀ (x : Int32) (ls st : List Value) (G : mc_H), mc_ev X 85 5 ls (.int x :: st) G = if x < 0 then mc_ev X 85 8 ls st G else mc_ev X 85 10 ls st G) ∧
  (∀ (ls st : List Value) (G : mc_H), mc_ev X 85 8 ls st G = mc_ev X 85 9 ls (.int (-1) :: st) G) ∧
  (∀ (v : Int32) (ls : List Value) (G : mc_H), mc_ev X 85 9 ls [.int v] G = some (some (.int v), G)) ∧
  (∀ (v1 v2 : Value) (x : Nat) (st : List Value) (G : mc_H), mc_ev X 85 10 [.ref x, v1, v2] st G = mc_ev X 85 11 [.ref x, v1, v2] (.ref x :: st) G) ∧
  (∀ (r : Nat) (ls st : List Value) (G : mc_H), st.length ≤ 4 → mc_cls G r = some 7 → mc_ev X 85 11 ls (.ref r :: st) G = (mc_ev X 110 0 [.ref r] [] G).bind (fun q => mc_ev X 85 14 ls (q.1.toList ++ st) q.2)) ∧
  (∀ (v0 v2 : Value) (x : Int32) (st : List Value) (G : mc_H), mc_ev X 85 14 [v0, .int x, v2] st G = mc_ev X 85 15 [v0, .int x, v2] (.int x :: st) G) ∧
  (∀ (v0 v1 : Value) (x : Int32) (st : List Value) (G : mc_H), mc_ev X 85 15 [v0, v1, .int x] st G = mc_ev X 85 16 [v0, v1, .int x] (.int x :: st) G) ∧
  (∀ (a0 : Int32) (a1 : Int32) (r : Nat) (ls st : List Value) (G : mc_H), st.length ≤ 4 → mc_cls G r = some 2 → mc_ev X 85 16 ls (.int a1 :: .int a0 :: .ref r :: st) G = (mc_ev X 15 0 [.ref r, .int a0, .int a1, .null, .null] [] G).bind (fun q => mc_ev X 85 19 ls (q.1.toList ++ st) q.2)) ∧
  (∀ (v : Int32) (ls : List Value) (G : mc_H), mc_ev X 85 19 ls [.int v] G = some (some (.int v), G)) := ⟨fun v0 v2 x st G => ev_iload_n rfl rfl,
  fun x ls st G => ev_br rfl rfl,
  fun v0 v1 x st G => ev_iload_n rfl rfl,
  fun x ls st G => ev_br rfl rfl,
  fun ls st G => ev_iconst rfl rfl,
  fun v ls G => ev_ireturn rfl rfl,
  fun v1 v2 x st G => ev_aload_n rfl rfl,
  fun r ls st G hr hG => ev_virt (As := []) rfl rfl rfl rfl rfl rfl hr hG,
  fun v0 v2 x st G => ev_iload_n rfl rfl,
  fun v0 v1 x st G => ev_iload_n rfl rfl,
  fun a0 a1 r ls st G hr hG => ev_virt (As := [.int a0, .int a1]) rfl rfl rfl rfl rfl rfl hr hG,
  fun v ls G => ev_ireturn rfl rfl⟩
theorem e_86 {X : mc_X} : (∀ (v1 : Value) (x : Nat) (st : List Value) (G : mc_H), mc_ev X 86 0 [.ref x, v1] st G = mc_ev X 86 1 [.ref x, v1] (.ref x :: st) G) ∧
  (∀ (r : Nat) (ls st : List Value) (G : mc_H), st.length ≤ 4 → mc_cls G r = some 7 → mc_ev X 86 1 ls (.ref r :: st) G = (mc_ev X 110 0 [.ref r] [] G).bind (fun q => mc_ev X 86 4 ls (q.1.toList ++ st) q.2)) ∧
  (∀ (v0 : Value) (x : Int32) (st : List Value) (G : mc_H), mc_ev X 86 4 [v0, .int x] st G = mc_ev X 86 5 [v0, .int x] (.int x :: st) G) ∧
  (∀ (a0 : Int32) (r : Nat) (ls st : List Value) (G : mc_H), st.length ≤ 4 → mc_cls G r = some 2 → mc_ev X 86 5 ls (.int a0 :: .ref r :: st) G = (mc_ev X 16 0 [.ref r, .int a0, .null, .null] [] G).bind (fun q => mc_ev X 86 8 ls (q.1.toList ++ st) q.2)) ∧
  (∀ (v : Int32) (ls : List Value) (G : mc_H), mc_ev X 86 8 ls [.int v] G = some (some (.int v), G)) := ⟨fun v1 x st G => ev_aload_n rfl rfl,
  fun r ls st G hr hG => ev_virt (As := []) rfl rfl rfl rfl rfl rfl hr hG,
  fun v0 x st G => ev_iload_n rfl rfl,
  fun a0 r ls st G hr hG => ev_virt (As := [.int a0]) rfl rfl rfl rfl rfl rfl hr hG,
  fun v ls G => ev_ireturn rfl rfl⟩
theorem e_87 {X : mc_X} : (∀ (v0 v2 v3 : Value) (x : Int32) (st : List Value) (G : mc_H), mc_ev X 87 0 [v0, .int x, v2, v3] st G = mc_ev X 87 1 [v0, .int x, v2, v3] (.int x :: st) G) ∧
  (∀ (a0 : Int32) (ls st : List Value) (G : mc_H), st.length ≤ 4 → mc_ev X 87 1 ls (.int a0 :: st) G = (mc_ev X 101 0 [.int a0] [] G).bind (fun q => mc_ev X 87 4 ls (q.1.toList ++ st) q.2)) ∧
  (∀ (x : Int32) (ls st : List Value) (G : mc_H), mc_ev X 87 4 ls (.int x :: st) G = if x = 0 then mc_ev X 87 7 ls st G else mc_ev X 87 19 ls st G) ∧
  (∀ (v0 v1 v3 : Value) (x : Int32) (st : List Value) (G : mc_H), mc_ev X 87 7 [v0, v1, .int x, v3] st G = mc_ev X 87 8 [v0, v1, .int x, v3] (.int x :: st) G) ∧
  (∀ (a0 : Int32) (ls st : List Value) (G : mc_H), st.length ≤ 4 → mc_ev X 87 8 ls (.int a0 :: st) G = (mc_ev X 102 0 [.int a0] [] G).bind (fun q => mc_ev X 87 11 ls (q.1.toList ++ st) q.2)) ∧
  (∀ (x : Int32) (ls st : List Value) (G : mc_H), mc_ev X 87 11 ls (.int x :: st) G = if x = 0 then mc_ev X 87 14 ls st G else mc_ev X 87 19 ls st G) ∧
  (∀ (v0 v1 v2 : Value) (x : Int32) (st : List Value) (G : mc_H), mc_ev X 87 14 [v0, v1, v2, .int x] st G = mc_ev X 87 15 [v0, v1, v2, .int x] (.int x :: st) G) ∧
  (∀ (ls st : List Value) (G : mc_H), mc_ev X 87 15 ls st G = mc_ev X 87 16 ls (.int 4 :: st) G) ∧
  (∀ (x y : Int32) (ls st : List Value) (G : mc_H), mc_ev X 87 16 ls (.int y :: .int x :: st) G = if y < x then mc_ev X 87 19 ls st G else mc_ev X 87 25 ls st G) ∧
  (∀ (v1 v2 v3 : Value) (x : Nat) (st : List Value) (G : mc_H), mc_ev X 87 19 [.ref x, v1, v2, v3] st G = mc_ev X 87 20 [.ref x, v1, v2, v3] (.ref x :: st) G) ∧
  (∀ (ls st : List Value) (G : mc_H), mc_ev X 87 20 ls st G = mc_ev X 87 21 ls (.int (-1) :: st) G) ∧
  (∀ (a0 : Int32) (r : Nat) (ls st : List Value) (G : mc_H), st.length ≤ 4 → mc_cls G r = some 7 → mc_ev X 87 21 ls (.int a0 :: .ref r :: st) G = (mc_ev X 104 0 [.ref r, .int a0] [] G).bind (fun q => mc_ev X 87 24 ls (q.1.toList ++ st) q.2)) ∧
  (∀ (v : Int32) (ls : List Value) (G : mc_H), mc_ev X 87 24 ls [.int v] G = some (some (.int v), G)) ∧
  (∀ (v0 v1 v2 : Value) (x : Int32) (st : List Value) (G : mc_H), mc_ev X 87 25 [v0, v1, v2, .int x] st G = mc_ev X 87 26 [v0, v1, v2, .int x] (.int x :: st) G) ∧
  (∀ (x : Int32) (ls st : List Value) (G : mc_H), mc_ev X 87 26 ls (.int x :: st) G = if x < 0 then mc_ev X 87 29 ls st G else mc_ev X 87 36 ls st G) ∧
  (∀ (v1 v2 v3 : Value) (x : Nat) (st : List Value) (G : mc_H), mc_ev X 87 29 [.ref x, v1, v2, v3] st G = mc_ev X 87 30 [.ref x, v1, v2, v3] (.ref x :: st) G) ∧
  (∀ (ls st : List Value) (G : mc_H), mc_ev X 87 30 ls st G = mc_ev X 87 32 ls (.int (-15) :: st) G) ∧
  (∀ (a0 : Int32) (r : Nat) (ls st : List Value) (G : mc_H), st.length ≤ 4 → mc_cls G r = some 7 → mc_ev X 87 32 ls (.int a0 :: .ref r :: st) G = (mc_ev X 104 0 [.ref r, .int a0] [] G).bind (fun q => mc_ev X 87 35 ls (q.1.toList ++ st) q.2)) ∧
  (∀ (v : Int32) (ls : List Value) (G : mc_H), mc_ev X 87 35 ls [.int v] G = some (some (.int v), G)) ∧
  (∀ (v1 v2 v3 : Value) (x : Nat) (st : List Value) (G : mc_H), mc_ev X 87 36 [.ref x, v1, v2, v3] st G = mc_ev X 87 37 [.ref x, v1, v2, v3] (.ref x :: st) G) ∧
  (∀ (r : Nat) (ls st : List Value) (G : mc_H), mc_ev X 87 37 ls (.ref r :: st) G = (mc_getf G r 7 4).bind (fun v => mc_ev X 87 40 ls (v :: st) G)) ∧
  (∀ (v0 v2 v3 : Value) (x : Int32) (st : List Value) (G : mc_H), mc_ev X 87 40 [v0, .int x, v2, v3] st G = mc_ev X 87 41 [v0, .int x, v2, v3] (.int x :: st) G) ∧
  (∀ (i : Int32) (r : Nat) (ls st : List Value) (G : mc_H), mc_ev X 87 41 ls (.int i :: .ref r :: st) G = (mc_getQ G r i).bind (fun x => mc_ev X 87 42 ls (.ref x :: st) G)) ∧
  (∀ (v0 v1 v3 : Value) (x : Int32) (st : List Value) (G : mc_H), mc_ev X 87 42 [v0, v1, .int x, v3] st G = mc_ev X 87 43 [v0, v1, .int x, v3] (.int x :: st) G) ∧
  (∀ (v0 v1 v2 : Value) (x : Int32) (st : List Value) (G : mc_H), mc_ev X 87 43 [v0, v1, v2, .int x] st G = mc_ev X 87 44 [v0, v1, v2, .int x] (.int x :: st) G) ∧
  (∀ (a0 : Int32) (a1 : Int32) (r : Nat) (ls st : List Value) (G : mc_H), st.length ≤ 4 → mc_cls G r = some 6 → mc_ev X 87 44 ls (.int a1 :: .int a0 :: .ref r :: st) G = (mc_ev X 50 0 [.ref r, .int a0, .int a1] [] G).bind (fun q => mc_ev X 87 47 ls (q.1.toList ++ st) q.2)) ∧
  (∀ (v1 v2 v3 : Value) (x : Nat) (st : List Value) (G : mc_H), mc_ev X 87 47 [.ref x, v1, v2, v3] st G = mc_ev X 87 48 [.ref x, v1, v2, v3] (.ref x :: st) G) ∧
  (∀ (ls st : List Value) (G : mc_H), mc_ev X 87 48 ls st G = mc_ev X 87 49 ls (.int 1 :: st) G) ∧
  (∀ (a0 : Int32) (r : Nat) (ls st : List Value) (G : mc_H), st.length ≤ 4 → mc_cls G r = some 7 → mc_ev X 87 49 ls (.int a0 :: .ref r :: st) G = (mc_ev X 105 0 [.ref r, .int a0] [] G).bind (fun q => mc_ev X 87 52 ls (q.1.toList ++ st) q.2)) ∧
  (∀ (v : Int32) (ls : List Value) (G : mc_H), mc_ev X 87 52 ls [.int v] G = some (some (.int v), G)) := ⟨fun v0 v2 v3 x st G => ev_iload_n rfl rfl,
  fun a0 ls st G hr => ev_stat (As := [.int a0]) rfl (by decide) rfl rfl rfl rfl hr,
  fun x ls st G => ev_br rfl rfl,
  fun v0 v1 v3 x st G => ev_iload_n rfl rfl,
  fun a0 ls st G hr => ev_stat (As := [.int a0]) rfl (by decide) rfl rfl rfl rfl hr,
  fun x ls st G => ev_br rfl rfl,
  fun v0 v1 v2 x st G => ev_iload_n rfl rfl,
  fun ls st G => ev_iconst rfl rfl,
  fun x y ls st G => ev_br rfl rfl,
  fun v1 v2 v3 x st G => ev_aload_n rfl rfl,
  fun ls st G => ev_iconst rfl rfl,
  fun a0 r ls st G hr hG => ev_virt (As := [.int a0]) rfl rfl rfl rfl rfl rfl hr hG,
  fun v ls G => ev_ireturn rfl rfl,
  fun v0 v1 v2 x st G => ev_iload_n rfl rfl,
  fun x ls st G => ev_br rfl rfl,
  fun v1 v2 v3 x st G => ev_aload_n rfl rfl,
  fun ls st G => ev_bipush rfl rfl,
  fun a0 r ls st G hr hG => ev_virt (As := [.int a0]) rfl rfl rfl rfl rfl rfl hr hG,
  fun v ls G => ev_ireturn rfl rfl,
  fun v1 v2 v3 x st G => ev_aload_n rfl rfl,
  fun r ls st G => ev_getfield rfl,
  fun v0 v2 v3 x st G => ev_iload_n rfl rfl,
  fun i r ls st G => ev_aaload rfl,
  fun v0 v1 v3 x st G => ev_iload_n rfl rfl,
  fun v0 v1 v2 x st G => ev_iload_n rfl rfl,
  fun a0 a1 r ls st G hr hG => ev_virt (As := [.int a0, .int a1]) rfl rfl rfl rfl rfl rfl hr hG,
  fun v1 v2 v3 x st G => ev_aload_n rfl rfl,
  fun ls st G => ev_iconst rfl rfl,
  fun a0 r ls st G hr hG => ev_virt (As := [.int a0]) rfl rfl rfl rfl rfl rfl hr hG,
  fun v ls G => ev_ireturn rfl rfl⟩
theorem e_88 {X : mc_X} : (∀ (v0 v2 v3 : Value) (x : Int32) (st : List Value) (G : mc_H), mc_ev X 88 0 [v0, .int x, v2, v3] st G = mc_ev X 88 1 [v0, .int x, v2, v3] (.int x :: st) G) ∧
  (∀ (a0 : Int32) (ls st : List Value) (G : mc_H), st.length ≤ 4 → mc_ev X 88 1 ls (.int a0 :: st) G = (mc_ev X 101 0 [.int a0] [] G).bind (fun q => mc_ev X 88 4 ls (q.1.toList ++ st) q.2)) ∧
  (∀ (x : Int32) (ls st : List Value) (G : mc_H), mc_ev X 88 4 ls (.int x :: st) G = if x = 0 then mc_ev X 88 7 ls st G else mc_ev X 88 13 ls st G) ∧
  (∀ (v0 v1 v2 : Value) (x : Int32) (st : List Value) (G : mc_H), mc_ev X 88 7 [v0, v1, v2, .int x] st G = mc_ev X 88 8 [v0, v1, v2, .int x] (.int x :: st) G) ∧
  (∀ (ls st : List Value) (G : mc_H), mc_ev X 88 8 ls st G = mc_ev X 88 10 ls (.int 12 :: st) G) ∧
  (∀ (x y : Int32) (ls st : List Value) (G : mc_H), mc_ev X 88 10 ls (.int y :: .int x :: st) G = if y < x then mc_ev X 88 13 ls st G else mc_ev X 88 19 ls st G) ∧
  (∀ (v1 v2 v3 : Value) (x : Nat) (st : List Value) (G : mc_H), mc_ev X 88 13 [.ref x, v1, v2, v3] st G = mc_ev X 88 14 [.ref x, v1, v2, v3] (.ref x :: st) G) ∧
  (∀ (ls st : List Value) (G : mc_H), mc_ev X 88 14 ls st G = mc_ev X 88 15 ls (.int (-1) :: st) G) ∧
  (∀ (a0 : Int32) (r : Nat) (ls st : List Value) (G : mc_H), st.length ≤ 4 → mc_cls G r = some 7 → mc_ev X 88 15 ls (.int a0 :: .ref r :: st) G = (mc_ev X 104 0 [.ref r, .int a0] [] G).bind (fun q => mc_ev X 88 18 ls (q.1.toList ++ st) q.2)) ∧
  (∀ (v : Int32) (ls : List Value) (G : mc_H), mc_ev X 88 18 ls [.int v] G = some (some (.int v), G)) ∧
  (∀ (v1 v2 v3 : Value) (x : Nat) (st : List Value) (G : mc_H), mc_ev X 88 19 [.ref x, v1, v2, v3] st G = mc_ev X 88 20 [.ref x, v1, v2, v3] (.ref x :: st) G) ∧
  (∀ (r : Nat) (ls st : List Value) (G : mc_H), mc_ev X 88 20 ls (.ref r :: st) G = (mc_getf G r 7 4).bind (fun v => mc_ev X 88 23 ls (v :: st) G)) ∧
  (∀ (v0 v2 v3 : Value) (x : Int32) (st : List Value) (G : mc_H), mc_ev X 88 23 [v0, .int x, v2, v3] st G = mc_ev X 88 24 [v0, .int x, v2, v3] (.int x :: st) G) ∧
  (∀ (i : Int32) (r : Nat) (ls st : List Value) (G : mc_H), mc_ev X 88 24 ls (.int i :: .ref r :: st) G = (mc_getQ G r i).bind (fun x => mc_ev X 88 25 ls (.ref x :: st) G)) ∧
  (∀ (r : Nat) (ls st : List Value) (G : mc_H), st.length ≤ 4 → mc_cls G r = some 6 → mc_ev X 88 25 ls (.ref r :: st) G = (mc_ev X 49 0 [.ref r] [] G).bind (fun q => mc_ev X 88 28 ls (q.1.toList ++ st) q.2)) ∧
  (∀ (x : Int32) (ls st : List Value) (G : mc_H), mc_ev X 88 28 ls (.int x :: st) G = if x = 0 then mc_ev X 88 38 ls st G else mc_ev X 88 31 ls st G) ∧
  (∀ (v1 v2 v3 : Value) (x : Nat) (st : List Value) (G : mc_H), mc_ev X 88 31 [.ref x, v1, v2, v3] st G = mc_ev X 88 32 [.ref x, v1, v2, v3] (.ref x :: st) G) ∧
  (∀ (ls st : List Value) (G : mc_H), mc_ev X 88 32 ls st G = mc_ev X 88 34 ls (.int (-11) :: st) G) ∧
  (∀ (a0 : Int32) (r : Nat) (ls st : List Value) (G : mc_H), st.length ≤ 4 → mc_cls G r = some 7 → mc_ev X 88 34 ls (.int a0 :: .ref r :: st) G = (mc_ev X 104 0 [.ref r, .int a0] [] G).bind (fun q => mc_ev X 88 37 ls (q.1.toList ++ st) q.2)) ∧
  (∀ (v : Int32) (ls : List Value) (G : mc_H), mc_ev X 88 37 ls [.int v] G = some (some (.int v), G)) ∧
  (∀ (v1 v2 v3 : Value) (x : Nat) (st : List Value) (G : mc_H), mc_ev X 88 38 [.ref x, v1, v2, v3] st G = mc_ev X 88 39 [.ref x, v1, v2, v3] (.ref x :: st) G) ∧
  (∀ (r : Nat) (ls st : List Value) (G : mc_H), mc_ev X 88 39 ls (.ref r :: st) G = (mc_getf G r 7 4).bind (fun v => mc_ev X 88 42 ls (v :: st) G)) ∧
  (∀ (v0 v2 v3 : Value) (x : Int32) (st : List Value) (G : mc_H), mc_ev X 88 42 [v0, .int x, v2, v3] st G = mc_ev X 88 43 [v0, .int x, v2, v3] (.int x :: st) G) ∧
  (∀ (i : Int32) (r : Nat) (ls st : List Value) (G : mc_H), mc_ev X 88 43 ls (.int i :: .ref r :: st) G = (mc_getQ G r i).bind (fun x => mc_ev X 88 44 ls (.ref x :: st) G)) ∧
  (∀ (v0 v1 v3 : Value) (x : Int32) (st : List Value) (G : mc_H), mc_ev X 88 44 [v0, v1, .int x, v3] st G = mc_ev X 88 45 [v0, v1, .int x, v3] (.int x :: st) G) ∧
  (∀ (a0 : Int32) (r : Nat) (ls st : List Value) (G : mc_H), st.length ≤ 4 → mc_cls G r = some 6 → mc_ev X 88 45 ls (.int a0 :: .ref r :: st) G = (mc_ev X 51 0 [.ref r, .int a0] [] G).bind (fun q => mc_ev X 88 48 ls (q.1.toList ++ st) q.2)) ∧
  (∀ (x : Int32) (ls st : List Value) (G : mc_H), mc_ev X 88 48 ls (.int x :: st) G = if x = 0 then mc_ev X 88 58 ls st G else mc_ev X 88 51 ls st G) ∧
  (∀ (v1 v2 v3 : Value) (x : Nat) (st : List Value) (G : mc_H), mc_ev X 88 51 [.ref x, v1, v2, v3] st G = mc_ev X 88 52 [.ref x, v1, v2, v3] (.ref x :: st) G) ∧
  (∀ (ls st : List Value) (G : mc_H), mc_ev X 88 52 ls st G = mc_ev X 88 54 ls (.int (-12) :: st) G) ∧
  (∀ (a0 : Int32) (r : Nat) (ls st : List Value) (G : mc_H), st.length ≤ 4 → mc_cls G r = some 7 → mc_ev X 88 54 ls (.int a0 :: .ref r :: st) G = (mc_ev X 104 0 [.ref r, .int a0] [] G).bind (fun q => mc_ev X 88 57 ls (q.1.toList ++ st) q.2)) ∧
  (∀ (v : Int32) (ls : List Value) (G : mc_H), mc_ev X 88 57 ls [.int v] G = some (some (.int v), G)) ∧
  (∀ (v0 v1 v2 : Value) (x : Int32) (st : List Value) (G : mc_H), mc_ev X 88 58 [v0, v1, v2, .int x] st G = mc_ev X 88 59 [v0, v1, v2, .int x] (.int x :: st) G) ∧
  (∀ (x : Int32) (ls st : List Value) (G : mc_H), mc_ev X 88 59 ls (.int x :: st) G = if x < 0 then mc_ev X 88 62 ls st G else mc_ev X 88 69 ls st G) ∧
  (∀ (v1 v2 v3 : Value) (x : Nat) (st : List Value) (G : mc_H), mc_ev X 88 62 [.ref x, v1, v2, v3] st G = mc_ev X 88 63 [.ref x, v1, v2, v3] (.ref x :: st) G) ∧
  (∀ (ls st : List Value) (G : mc_H), mc_ev X 88 63 ls st G = mc_ev X 88 65 ls (.int (-15) :: st) G) ∧
  (∀ (a0 : Int32) (r : Nat) (ls st : List Value) (G : mc_H), st.length ≤ 4 → mc_cls G r = some 7 → mc_ev X 88 65 ls (.int a0 :: .ref r :: st) G = (mc_ev X 104 0 [.ref r, .int a0] [] G).bind (fun q => mc_ev X 88 68 ls (q.1.toList ++ st) q.2)) ∧
  (∀ (v : Int32) (ls : List Value) (G : mc_H), mc_ev X 88 68 ls [.int v] G = some (some (.int v), G)) ∧
  (∀ (v1 v2 v3 : Value) (x : Nat) (st : List Value) (G : mc_H), mc_ev X 88 69 [.ref x, v1, v2, v3] st G = mc_ev X 88 70 [.ref x, v1, v2, v3] (.ref x :: st) G) ∧
  (∀ (r : Nat) (ls st : List Value) (G : mc_H), mc_ev X 88 70 ls (.ref r :: st) G = (mc_getf G r 7 4).bind (fun v => mc_ev X 88 73 ls (v :: st) G)) ∧
  (∀ (v0 v2 v3 : Value) (x : Int32) (st : List Value) (G : mc_H), mc_ev X 88 73 [v0, .int x, v2, v3] st G = mc_ev X 88 74 [v0, .int x, v2, v3] (.int x :: st) G) ∧
  (∀ (i : Int32) (r : Nat) (ls st : List Value) (G : mc_H), mc_ev X 88 74 ls (.int i :: .ref r :: st) G = (mc_getQ G r i).bind (fun x => mc_ev X 88 75 ls (.ref x :: st) G)) ∧
  (∀ (v0 v1 v3 : Value) (x : Int32) (st : List Value) (G : mc_H), mc_ev X 88 75 [v0, v1, .int x, v3] st G = mc_ev X 88 76 [v0, v1, .int x, v3] (.int x :: st) G) ∧
  (∀ (v0 v1 v2 : Value) (x : Int32) (st : List Value) (G : mc_H), mc_ev X 88 76 [v0, v1, v2, .int x] st G = mc_ev X 88 77 [v0, v1, v2, .int x] (.int x :: st) G) ∧
  (∀ (a0 : Int32) (a1 : Int32) (r : Nat) (ls st : List Value) (G : mc_H), st.length ≤ 4 → mc_cls G r = some 6 → mc_ev X 88 77 ls (.int a1 :: .int a0 :: .ref r :: st) G = (mc_ev X 53 0 [.ref r, .int a0, .int a1, .null] [] G).bind (fun q => mc_ev X 88 80 ls (q.1.toList ++ st) q.2)) ∧
  (∀ (v1 v2 v3 : Value) (x : Nat) (st : List Value) (G : mc_H), mc_ev X 88 80 [.ref x, v1, v2, v3] st G = mc_ev X 88 81 [.ref x, v1, v2, v3] (.ref x :: st) G) ∧
  (∀ (ls st : List Value) (G : mc_H), mc_ev X 88 81 ls st G = mc_ev X 88 82 ls (.int 1 :: st) G) ∧
  (∀ (a0 : Int32) (r : Nat) (ls st : List Value) (G : mc_H), st.length ≤ 4 → mc_cls G r = some 7 → mc_ev X 88 82 ls (.int a0 :: .ref r :: st) G = (mc_ev X 105 0 [.ref r, .int a0] [] G).bind (fun q => mc_ev X 88 85 ls (q.1.toList ++ st) q.2)) ∧
  (∀ (v : Int32) (ls : List Value) (G : mc_H), mc_ev X 88 85 ls [.int v] G = some (some (.int v), G)) := ⟨fun v0 v2 v3 x st G => ev_iload_n rfl rfl,
  fun a0 ls st G hr => ev_stat (As := [.int a0]) rfl (by decide) rfl rfl rfl rfl hr,
  fun x ls st G => ev_br rfl rfl,
  fun v0 v1 v2 x st G => ev_iload_n rfl rfl,
  fun ls st G => ev_bipush rfl rfl,
  fun x y ls st G => ev_br rfl rfl,
  fun v1 v2 v3 x st G => ev_aload_n rfl rfl,
  fun ls st G => ev_iconst rfl rfl,
  fun a0 r ls st G hr hG => ev_virt (As := [.int a0]) rfl rfl rfl rfl rfl rfl hr hG,
  fun v ls G => ev_ireturn rfl rfl,
  fun v1 v2 v3 x st G => ev_aload_n rfl rfl,
  fun r ls st G => ev_getfield rfl,
  fun v0 v2 v3 x st G => ev_iload_n rfl rfl,
  fun i r ls st G => ev_aaload rfl,
  fun r ls st G hr hG => ev_virt (As := []) rfl rfl rfl rfl rfl rfl hr hG,
  fun x ls st G => ev_br rfl rfl,
  fun v1 v2 v3 x st G => ev_aload_n rfl rfl,
  fun ls st G => ev_bipush rfl rfl,
  fun a0 r ls st G hr hG => ev_virt (As := [.int a0]) rfl rfl rfl rfl rfl rfl hr hG,
  fun v ls G => ev_ireturn rfl rfl,
  fun v1 v2 v3 x st G => ev_aload_n rfl rfl,
  fun r ls st G => ev_getfield rfl,
  fun v0 v2 v3 x st G => ev_iload_n rfl rfl,
  fun i r ls st G => ev_aaload rfl,
  fun v0 v1 v3 x st G => ev_iload_n rfl rfl,
  fun a0 r ls st G hr hG => ev_virt (As := [.int a0]) rfl rfl rfl rfl rfl rfl hr hG,
  fun x ls st G => ev_br rfl rfl,
  fun v1 v2 v3 x st G => ev_aload_n rfl rfl,
  fun ls st G => ev_bipush rfl rfl,
  fun a0 r ls st G hr hG => ev_virt (As := [.int a0]) rfl rfl rfl rfl rfl rfl hr hG,
  fun v ls G => ev_ireturn rfl rfl,
  fun v0 v1 v2 x st G => ev_iload_n rfl rfl,
  fun x ls st G => ev_br rfl rfl,
  fun v1 v2 v3 x st G => ev_aload_n rfl rfl,
  fun ls st G => ev_bipush rfl rfl,
  fun a0 r ls st G hr hG => ev_virt (As := [.int a0]) rfl rfl rfl rfl rfl rfl hr hG,
  fun v ls G => ev_ireturn rfl rfl,
  fun v1 v2 v3 x st G => ev_aload_n rfl rfl,
  fun r ls st G => ev_getfield rfl,
  fun v0 v2 v3 x st G => ev_iload_n rfl rfl,
  fun i r ls st G => ev_aaload rfl,
  fun v0 v1 v3 x st G => ev_iload_n rfl rfl,
  fun v0 v1 v2 x st G => ev_iload_n rfl rfl,
  fun a0 a1 r ls st G hr hG => ev_virt (As := [.int a0, .int a1]) rfl rfl rfl rfl rfl rfl hr hG,
  fun v1 v2 v3 x st G => ev_aload_n rfl rfl,
  fun ls st G => ev_iconst rfl rfl,
  fun a0 r ls st G hr hG => ev_virt (As := [.int a0]) rfl rfl rfl rfl rfl rfl hr hG,
  fun v ls G => ev_ireturn rfl rfl⟩
theorem e_89 {X : mc_X} : (∀ (v1 v2 v3 v4 v5 v6 : Value) (x : Nat) (st : List Value) (G : mc_H), mc_ev X 89 0 [.ref x, v1, v2, v3, v4, v5, v6] st G = mc_ev X 89 1 [.ref x, v1, v2, v3, v4, v5, v6] (.ref x :: st) G) ∧
  (∀ (v0 v2 v3 v4 v5 v6 : Value) (x : Int32) (st : List Value) (G : mc_H), mc_ev X 89 1 [v0, .int x, v2, v3, v4, v5, v6] st G = mc_ev X 89 2 [v0, .int x, v2, v3, v4, v5, v6] (.int x :: st) G) ∧
  (∀ (v0 v1 v3 v4 v5 v6 : Value) (x : Int32) (st : List Value) (G : mc_H), mc_ev X 89 2 [v0, v1, .int x, v3, v4, v5, v6] st G = mc_ev X 89 3 [v0, v1, .int x, v3, v4, v5, v6] (.int x :: st) G) ∧
  (∀ (v0 v1 v2 v4 v5 v6 : Value) (x : Int32) (st : List Value) (G : mc_H), mc_ev X 89 3 [v0, v1, v2, .int x, v4, v5, v6] st G = mc_ev X 89 4 [v0, v1, v2, .int x, v4, v5, v6] (.int x :: st) G) ∧
  (∀ (v0 v1 v2 v3 v5 v6 : Value) (x : Int32) (st : List Value) (G : mc_H), mc_ev X 89 4 [v0, v1, v2, v3, .int x, v5, v6] st G = mc_ev X 89 6 [v0, v1, v2, v3, .int x, v5, v6] (.int x :: st) G) ∧
  (∀ (a0 : Int32) (a1 : Int32) (a2 : Int32) (a3 : Int32) (r : Nat) (ls st : List Value) (G : mc_H), st.length ≤ 4 → mc_cls G r = some 7 → mc_ev X 89 6 ls (.int a3 :: .int a2 :: .int a1 :: .int a0 :: .ref r :: st) G = (mc_ev X 106 0 [.ref r, .int a0, .int a1, .int a2, .int a3] [] G).bind (fun q => mc_ev X 89 9 ls (q.1.toList ++ st) q.2)) ∧
  (∀ (v0 v1 v2 v3 v4 v5 v6 : Value) (x : Int32) (st : List Value) (G : mc_H), mc_ev X 89 9 [v0, v1, v2, v3, v4, v5, v6] (.int x :: st) G = mc_ev X 89 11 [v0, v1, v2, v3, v4, v5, .int x] st G) ∧
  (∀ (v0 v1 v2 v3 v4 v5 : Value) (x : Int32) (st : List Value) (G : mc_H), mc_ev X 89 11 [v0, v1, v2, v3, v4, v5, .int x] st G = mc_ev X 89 13 [v0, v1, v2, v3, v4, v5, .int x] (.int x :: st) G) ∧
  (∀ (x : Int32) (ls st : List Value) (G : mc_H), mc_ev X 89 13 ls (.int x :: st) G = if x = 0 then mc_ev X 89 23 ls st G else mc_ev X 89 16 ls st G) ∧
  (∀ (v1 v2 v3 v4 v5 v6 : Value) (x : Nat) (st : List Value) (G : mc_H), mc_ev X 89 16 [.ref x, v1, v2, v3, v4, v5, v6] st G = mc_ev X 89 17 [.ref x, v1, v2, v3, v4, v5, v6] (.ref x :: st) G) ∧
  (∀ (v0 v1 v2 v3 v4 v5 : Value) (x : Int32) (st : List Value) (G : mc_H), mc_ev X 89 17 [v0, v1, v2, v3, v4, v5, .int x] st G = mc_ev X 89 19 [v0, v1, v2, v3, v4, v5, .int x] (.int x :: st) G) ∧
  (∀ (a0 : Int32) (r : Nat) (ls st : List Value) (G : mc_H), st.length ≤ 4 → mc_cls G r = some 7 → mc_ev X 89 19 ls (.int a0 :: .ref r :: st) G = (mc_ev X 104 0 [.ref r, .int a0] [] G).bind (fun q => mc_ev X 89 22 ls (q.1.toList ++ st) q.2)) ∧
  (∀ (v : Int32) (ls : List Value) (G : mc_H), mc_ev X 89 22 ls [.int v] G = some (some (.int v), G)) ∧
  (∀ (v1 v2 v3 v4 v5 v6 : Value) (x : Nat) (st : List Value) (G : mc_H), mc_ev X 89 23 [.ref x, v1, v2, v3, v4, v5, v6] st G = mc_ev X 89 24 [.ref x, v1, v2, v3, v4, v5, v6] (.ref x :: st) G) ∧
  (∀ (r : Nat) (ls st : List Value) (G : mc_H), mc_ev X 89 24 ls (.ref r :: st) G = (mc_getf G r 7 4).bind (fun v => mc_ev X 89 27 ls (v :: st) G)) ∧
  (∀ (v0 v2 v3 v4 v5 v6 : Value) (x : Int32) (st : List Value) (G : mc_H), mc_ev X 89 27 [v0, .int x, v2, v3, v4, v5, v6] st G = mc_ev X 89 28 [v0, .int x, v2, v3, v4, v5, v6] (.int x :: st) G) ∧
  (∀ (i : Int32) (r : Nat) (ls st : List Value) (G : mc_H), mc_ev X 89 28 ls (.int i :: .ref r :: st) G = (mc_getQ G r i).bind (fun x => mc_ev X 89 29 ls (.ref x :: st) G)) ∧
  (∀ (v0 v1 v2 v4 v5 v6 : Value) (x : Int32) (st : List Value) (G : mc_H), mc_ev X 89 29 [v0, v1, v2, .int x, v4, v5, v6] st G = mc_ev X 89 30 [v0, v1, v2, .int x, v4, v5, v6] (.int x :: st) G) ∧
  (∀ (v0 v1 v2 v3 v5 v6 : Value) (x : Int32) (st : List Value) (G : mc_H), mc_ev X 89 30 [v0, v1, v2, v3, .int x, v5, v6] st G = mc_ev X 89 32 [v0, v1, v2, v3, .int x, v5, v6] (.int x :: st) G) ∧
  (∀ (v0 v1 v2 v3 v4 v6 : Value) (x : Int32) (st : List Value) (G : mc_H), mc_ev X 89 32 [v0, v1, v2, v3, v4, .int x, v6] st G = mc_ev X 89 34 [v0, v1, v2, v3, v4, .int x, v6] (.int x :: st) G) ∧
  (∀ (a0 : Int32) (a1 : Int32) (a2 : Int32) (r : Nat) (ls st : List Value) (G : mc_H), st.length ≤ 4 → mc_cls G r = some 6 → mc_ev X 89 34 ls (.int a2 :: .int a1 :: .int a0 :: .ref r :: st) G = (mc_ev X 58 0 [.ref r, .int a0, .int a1, .int a2] [] G).bind (fun q => mc_ev X 89 37 ls (q.1.toList ++ st) q.2)) ∧
  (∀ (v1 v2 v3 v4 v5 v6 : Value) (x : Nat) (st : List Value) (G : mc_H), mc_ev X 89 37 [.ref x, v1, v2, v3, v4, v5, v6] st G = mc_ev X 89 38 [.ref x, v1, v2, v3, v4, v5, v6] (.ref x :: st) G) ∧
  (∀ (ls st : List Value) (G : mc_H), mc_ev X 89 38 ls st G = mc_ev X 89 39 ls (.int 1 :: st) G) ∧
  (∀ (a0 : Int32) (r : Nat) (ls st : List Value) (G : mc_H), st.length ≤ 4 → mc_cls G r = some 7 → mc_ev X 89 39 ls (.int a0 :: .ref r :: st) G = (mc_ev X 105 0 [.ref r, .int a0] [] G).bind (fun q => mc_ev X 89 42 ls (q.1.toList ++ st) q.2)) ∧
  (∀ (v : Int32) (ls : List Value) (G : mc_H), mc_ev X 89 42 ls [.int v] G = some (some (.int v), G)) := ⟨fun v1 v2 v3 v4 v5 v6 x st G => ev_aload_n rfl rfl,
  fun v0 v2 v3 v4 v5 v6 x st G => ev_iload_n rfl rfl,
  fun v0 v1 v3 v4 v5 v6 x st G => ev_iload_n rfl rfl,
  fun v0 v1 v2 v4 v5 v6 x st G => ev_iload_n rfl rfl,
  fun v0 v1 v2 v3 v5 v6 x st G => ev_iload rfl rfl,
  fun a0 a1 a2 a3 r ls st G hr hG => ev_virt (As := [.int a0, .int a1, .int a2, .int a3]) rfl rfl rfl rfl rfl rfl hr hG,
  fun v0 v1 v2 v3 v4 v5 v6 x st G => ev_istore (X := X) (k := 89) (pc := 9) (ls := [v0, v1, v2, v3, v4, v5, v6]) (st := st) (G := G) (j := 6) (x := x) rfl (Nat.le_of_ble_eq_true rfl),
  fun v0 v1 v2 v3 v4 v5 x st G => ev_iload rfl rfl,
  fun x ls st G => ev_br rfl rfl,
  fun v1 v2 v3 v4 v5 v6 x st G => ev_aload_n rfl rfl,
  fun v0 v1 v2 v3 v4 v5 x st G => ev_iload rfl rfl,
  fun a0 r ls st G hr hG => ev_virt (As := [.int a0]) rfl rfl rfl rfl rfl rfl hr hG,
  fun v ls G => ev_ireturn rfl rfl,
  fun v1 v2 v3 v4 v5 v6 x st G => ev_aload_n rfl rfl,
  fun r ls st G => ev_getfield rfl,
  fun v0 v2 v3 v4 v5 v6 x st G => ev_iload_n rfl rfl,
  fun i r ls st G => ev_aaload rfl,
  fun v0 v1 v2 v4 v5 v6 x st G => ev_iload_n rfl rfl,
  fun v0 v1 v2 v3 v5 v6 x st G => ev_iload rfl rfl,
  fun v0 v1 v2 v3 v4 v6 x st G => ev_iload rfl rfl,
  fun a0 a1 a2 r ls st G hr hG => ev_virt (As := [.int a0, .int a1, .int a2]) rfl rfl rfl rfl rfl rfl hr hG,
  fun v1 v2 v3 v4 v5 v6 x st G => ev_aload_n rfl rfl,
  fun ls st G => ev_iconst rfl rfl,
  fun a0 r ls st G hr hG => ev_virt (As := [.int a0]) rfl rfl rfl rfl rfl rfl hr hG,
  fun v ls G => ev_ireturn rfl rfl⟩
theorem e_90 {X : mc_X} : (∀ (v1 v2 v3 v4 : Value) (x : Nat) (st : List Value) (G : mc_H), mc_ev X 90 0 [.ref x, v1, v2, v3, v4] st G = mc_ev X 90 1 [.ref x, v1, v2, v3, v4] (.ref x :: st) G) ∧
  (∀ (v1 v2 v3 v4 : Value) (x : Nat) (st : List Value) (G : mc_H), mc_ev X 90 1 [.ref x, v1, v2, v3, v4] st G = mc_ev X 90 2 [.ref x, v1, v2, v3, v4] (.ref x :: st) G) ∧
  (∀ (v0 v2 v3 v4 : Value) (x : Int32) (st : List Value) (G : mc_H), mc_ev X 90 2 [v0, .int x, v2, v3, v4] st G = mc_ev X 90 3 [v0, .int x, v2, v3, v4] (.int x :: st) G) ∧
  (∀ (v0 v1 v3 v4 : Value) (x : Int32) (st : List Value) (G : mc_H), mc_ev X 90 3 [v0, v1, .int x, v3, v4] st G = mc_ev X 90 4 [v0, v1, .int x, v3, v4] (.int x :: st) G) ∧
  (∀ (v0 v1 v2 v4 : Value) (x : Int32) (st : List Value) (G : mc_H), mc_ev X 90 4 [v0, v1, v2, .int x, v4] st G = mc_ev X 90 5 [v0, v1, v2, .int x, v4] (.int x :: st) G) ∧
  (∀ (v0 v1 v2 v3 : Value) (x : Int32) (st : List Value) (G : mc_H), mc_ev X 90 5 [v0, v1, v2, v3, .int x] st G = mc_ev X 90 7 [v0, v1, v2, v3, .int x] (.int x :: st) G) ∧
  (∀ (a0 : Int32) (a1 : Int32) (a2 : Int32) (a3 : Int32) (r : Nat) (ls st : List Value) (G : mc_H), st.length ≤ 4 → mc_cls G r = some 7 → mc_ev X 90 7 ls (.int a3 :: .int a2 :: .int a1 :: .int a0 :: .ref r :: st) G = (mc_ev X 106 0 [.ref r, .int a0, .int a1, .int a2, .int a3] [] G).bind (fun q => mc_ev X 90 10 ls (q.1.toList ++ st) q.2)) ∧
  (∀ (v : Value) (r : Nat) (ls st : List Value) (G : mc_H), mc_ev X 90 10 ls (v :: .ref r :: st) G = (mc_setf G r 7 6 v).bind (fun G' => mc_ev X 90 13 ls st G')) ∧
  (∀ (v1 v2 v3 v4 : Value) (x : Nat) (st : List Value) (G : mc_H), mc_ev X 90 13 [.ref x, v1, v2, v3, v4] st G = mc_ev X 90 14 [.ref x, v1, v2, v3, v4] (.ref x :: st) G) ∧
  (∀ (r : Nat) (ls st : List Value) (G : mc_H), mc_ev X 90 14 ls (.ref r :: st) G = (mc_getf G r 7 6).bind (fun v => mc_ev X 90 17 ls (v :: st) G)) ∧
  (∀ (x : Int32) (ls st : List Value) (G : mc_H), mc_ev X 90 17 ls (.int x :: st) G = if x = 0 then mc_ev X 90 20 ls st G else mc_ev X 90 35 ls st G) ∧
  (∀ (v1 v2 v3 v4 : Value) (x : Nat) (st : List Value) (G : mc_H), mc_ev X 90 20 [.ref x, v1, v2, v3, v4] st G = mc_ev X 90 21 [.ref x, v1, v2, v3, v4] (.ref x :: st) G) ∧
  (∀ (r : Nat) (ls st : List Value) (G : mc_H), mc_ev X 90 21 ls (.ref r :: st) G = (mc_getf G r 7 4).bind (fun v => mc_ev X 90 24 ls (v :: st) G)) ∧
  (∀ (v0 v2 v3 v4 : Value) (x : Int32) (st : List Value) (G : mc_H), mc_ev X 90 24 [v0, .int x, v2, v3, v4] st G = mc_ev X 90 25 [v0, .int x, v2, v3, v4] (.int x :: st) G) ∧
  (∀ (i : Int32) (r : Nat) (ls st : List Value) (G : mc_H), mc_ev X 90 25 ls (.int i :: .ref r :: st) G = (mc_getQ G r i).bind (fun x => mc_ev X 90 26 ls (.ref x :: st) G)) ∧
  (∀ (v0 v1 v2 v4 : Value) (x : Int32) (st : List Value) (G : mc_H), mc_ev X 90 26 [v0, v1, v2, .int x, v4] st G = mc_ev X 90 27 [v0, v1, v2, .int x, v4] (.int x :: st) G) ∧
  (∀ (v0 v1 v2 v3 : Value) (x : Int32) (st : List Value) (G : mc_H), mc_ev X 90 27 [v0, v1, v2, v3, .int x] st G = mc_ev X 90 29 [v0, v1, v2, v3, .int x] (.int x :: st) G) ∧
  (∀ (a0 : Int32) (a1 : Int32) (r : Nat) (ls st : List Value) (G : mc_H), st.length ≤ 4 → mc_cls G r = some 6 → mc_ev X 90 29 ls (.int a1 :: .int a0 :: .ref r :: st) G = (mc_ev X 55 0 [.ref r, .int a0, .int a1] [] G).bind (fun q => mc_ev X 90 32 ls (q.1.toList ++ st) q.2)) ∧
  (∀ (ls st : List Value) (G : mc_H), mc_ev X 90 32 ls st G = mc_ev X 90 36 ls st G) ∧
  (∀ (ls st : List Value) (G : mc_H), mc_ev X 90 35 ls st G = mc_ev X 90 36 ls (.int 0 :: st) G) ∧
  (∀ (v : Int32) (ls : List Value) (G : mc_H), mc_ev X 90 36 ls [.int v] G = some (some (.int v), G)) := ⟨fun v1 v2 v3 v4 x st G => ev_aload_n rfl rfl,
  fun v1 v2 v3 v4 x st G => ev_aload_n rfl rfl,
  fun v0 v2 v3 v4 x st G => ev_iload_n rfl rfl,
  fun v0 v1 v3 v4 x st G => ev_iload_n rfl rfl,
  fun v0 v1 v2 v4 x st G => ev_iload_n rfl rfl,
  fun v0 v1 v2 v3 x st G => ev_iload rfl rfl,
  fun a0 a1 a2 a3 r ls st G hr hG => ev_virt (As := [.int a0, .int a1, .int a2, .int a3]) rfl rfl rfl rfl rfl rfl hr hG,
  fun v r ls st G => ev_putfield rfl,
  fun v1 v2 v3 v4 x st G => ev_aload_n rfl rfl,
  fun r ls st G => ev_getfield rfl,
  fun x ls st G => ev_br rfl rfl,
  fun v1 v2 v3 v4 x st G => ev_aload_n rfl rfl,
  fun r ls st G => ev_getfield rfl,
  fun v0 v2 v3 v4 x st G => ev_iload_n rfl rfl,
  fun i r ls st G => ev_aaload rfl,
  fun v0 v1 v2 v4 x st G => ev_iload_n rfl rfl,
  fun v0 v1 v2 v3 x st G => ev_iload rfl rfl,
  fun a0 a1 r ls st G hr hG => ev_virt (As := [.int a0, .int a1]) rfl rfl rfl rfl rfl rfl hr hG,
  fun ls st G => ev_goto rfl rfl,
  fun ls st G => ev_iconst rfl rfl,
  fun v ls G => ev_ireturn rfl rfl⟩
theorem e_91 {X : mc_X} : (∀ (v0 v2 v3 v4 v5 v6 v7 v8 v9 v10 : Value) (x : Int32) (st : List Value) (G : mc_H), mc_ev X 91 0 [v0, .int x, v2, v3, v4, v5, v6, v7, v8, v9, v10] st G = mc_ev X 91 1 [v0, .int x, v2, v3, v4, v5, v6, v7, v8, v9, v10] (.int x :: st) G) ∧
  (∀ (a0 : Int32) (ls st : List Value) (G : mc_H), st.length ≤ 4 → mc_ev X 91 1 ls (.int a0 :: st) G = (mc_ev X 101 0 [.int a0] [] G).bind (fun q => mc_ev X 91 4 ls (q.1.toList ++ st) q.2)) ∧
  (∀ (x : Int32) (ls st : List Value) (G : mc_H), mc_ev X 91 4 ls (.int x :: st) G = if x = 0 then mc_ev X 91 7 ls st G else mc_ev X 91 15 ls st G) ∧
  (∀ (v0 v1 v2 v3 v5 v6 v7 v8 v9 v10 : Value) (x : Int32) (st : List Value) (G : mc_H), mc_ev X 91 7 [v0, v1, v2, v3, .int x, v5, v6, v7, v8, v9, v10] st G = mc_ev X 91 9 [v0, v1, v2, v3, .int x, v5, v6, v7, v8, v9, v10] (.int x :: st) G) ∧
  (∀ (a0 : Int32) (ls st : List Value) (G : mc_H), st.length ≤ 4 → mc_ev X 91 9 ls (.int a0 :: st) G = (mc_ev X 101 0 [.int a0] [] G).bind (fun q => mc_ev X 91 12 ls (q.1.toList ++ st) q.2)) ∧
  (∀ (x : Int32) (ls st : List Value) (G : mc_H), mc_ev X 91 12 ls (.int x :: st) G = if x = 0 then mc_ev X 91 21 ls st G else mc_ev X 91 15 ls st G) ∧
  (∀ (v1 v2 v3 v4 v5 v6 v7 v8 v9 v10 : Value) (x : Nat) (st : List Value) (G : mc_H), mc_ev X 91 15 [.ref x, v1, v2, v3, v4, v5, v6, v7, v8, v9, v10] st G = mc_ev X 91 16 [.ref x, v1, v2, v3, v4, v5, v6, v7, v8, v9, v10] (.ref x :: st) G) ∧
  (∀ (ls st : List Value) (G : mc_H), mc_ev X 91 16 ls st G = mc_ev X 91 17 ls (.int (-1) :: st) G) ∧
  (∀ (a0 : Int32) (r : Nat) (ls st : List Value) (G : mc_H), st.length ≤ 4 → mc_cls G r = some 7 → mc_ev X 91 17 ls (.int a0 :: .ref r :: st) G = (mc_ev X 104 0 [.ref r, .int a0] [] G).bind (fun q => mc_ev X 91 20 ls (q.1.toList ++ st) q.2)) ∧
  (∀ (v : Int32) (ls : List Value) (G : mc_H), mc_ev X 91 20 ls [.int v] G = some (some (.int v), G)) ∧
  (∀ (v1 v2 v3 v4 v5 v6 v7 v8 v9 v10 : Value) (x : Nat) (st : List Value) (G : mc_H), mc_ev X 91 21 [.ref x, v1, v2, v3, v4, v5, v6, v7, v8, v9, v10] st G = mc_ev X 91 22 [.ref x, v1, v2, v3, v4, v5, v6, v7, v8, v9, v10] (.ref x :: st) G) ∧
  (∀ (r : Nat) (ls st : List Value) (G : mc_H), mc_ev X 91 22 ls (.ref r :: st) G = (mc_getf G r 7 4).bind (fun v => mc_ev X 91 25 ls (v :: st) G)) ∧
  (∀ (v0 v2 v3 v4 v5 v6 v7 v8 v9 v10 : Value) (x : Int32) (st : List Value) (G : mc_H), mc_ev X 91 25 [v0, .int x, v2, v3, v4, v5, v6, v7, v8, v9, v10] st G = mc_ev X 91 26 [v0, .int x, v2, v3, v4, v5, v6, v7, v8, v9, v10] (.int x :: st) G) ∧
  (∀ (i : Int32) (r : Nat) (ls st : List Value) (G : mc_H), mc_ev X 91 26 ls (.int i :: .ref r :: st) G = (mc_getQ G r i).bind (fun x => mc_ev X 91 27 ls (.ref x :: st) G)) ∧
  (∀ (v0 v1 v2 v3 v4 v5 v6 v7 v8 v9 v10 : Value) (x : Nat) (st : List Value) (G : mc_H), mc_ev X 91 27 [v0, v1, v2, v3, v4, v5, v6, v7, v8, v9, v10] (.ref x :: st) G = mc_ev X 91 29 [v0, v1, v2, v3, v4, v5, v6, v7, .ref x, v9, v10] st G) ∧
  (∀ (v1 v2 v3 v4 v5 v6 v7 v8 v9 v10 : Value) (x : Nat) (st : List Value) (G : mc_H), mc_ev X 91 29 [.ref x, v1, v2, v3, v4, v5, v6, v7, v8, v9, v10] st G = mc_ev X 91 30 [.ref x, v1, v2, v3, v4, v5, v6, v7, v8, v9, v10] (.ref x :: st) G) ∧
  (∀ (r : Nat) (ls st : List Value) (G : mc_H), mc_ev X 91 30 ls (.ref r :: st) G = (mc_getf G r 7 4).bind (fun v => mc_ev X 91 33 ls (v :: st) G)) ∧
  (∀ (v0 v1 v2 v3 v5 v6 v7 v8 v9 v10 : Value) (x : Int32) (st : List Value) (G : mc_H), mc_ev X 91 33 [v0, v1, v2, v3, .int x, v5, v6, v7, v8, v9, v10] st G = mc_ev X 91 35 [v0, v1, v2, v3, .int x, v5, v6, v7, v8, v9, v10] (.int x :: st) G) ∧
  (∀ (i : Int32) (r : Nat) (ls st : List Value) (G : mc_H), mc_ev X 91 35 ls (.int i :: .ref r :: st) G = (mc_getQ G r i).bind (fun x => mc_ev X 91 36 ls (.ref x :: st) G)) ∧
  (∀ (v0 v1 v2 v3 v4 v5 v6 v7 v8 v9 v10 : Value) (x : Nat) (st : List Value) (G : mc_H), mc_ev X 91 36 [v0, v1, v2, v3, v4, v5, v6, v7, v8, v9, v10] (.ref x :: st) G = mc_ev X 91 38 [v0, v1, v2, v3, v4, v5, v6, v7, v8, .ref x, v10] st G) ∧
  (∀ (v0 v1 v2 v3 v4 v5 v6 v7 v9 v10 : Value) (x : Nat) (st : List Value) (G : mc_H), mc_ev X 91 38 [v0, v1, v2, v3, v4, v5, v6, v7, .ref x, v9, v10] st G = mc_ev X 91 40 [v0, v1, v2, v3, v4, v5, v6, v7, .ref x, v9, v10] (.ref x :: st) G) ∧
  (∀ (v0 v1 v3 v4 v5 v6 v7 v8 v9 v10 : Value) (x : Int32) (st : List Value) (G : mc_H), mc_ev X 91 40 [v0, v1, .int x, v3, v4, v5, v6, v7, v8, v9, v10] st G = mc_ev X 91 41 [v0, v1, .int x, v3, v4, v5, v6, v7, v8, v9, v10] (.int x :: st) G) ∧
  (∀ (v0 v1 v2 v3 v4 v5 v6 v7 v8 v10 : Value) (x : Nat) (st : List Value) (G : mc_H), mc_ev X 91 41 [v0, v1, v2, v3, v4, v5, v6, v7, v8, .ref x, v10] st G = mc_ev X 91 43 [v0, v1, v2, v3, v4, v5, v6, v7, v8, .ref x, v10] (.ref x :: st) G) ∧
  (∀ (v0 v1 v2 v3 v4 v6 v7 v8 v9 v10 : Value) (x : Int32) (st : List Value) (G : mc_H), mc_ev X 91 43 [v0, v1, v2, v3, v4, .int x, v6, v7, v8, v9, v10] st G = mc_ev X 91 45 [v0, v1, v2, v3, v4, .int x, v6, v7, v8, v9, v10] (.int x :: st) G) ∧
  (∀ (a0 : Nat) (a1 : Int32) (a2 : Nat) (a3 : Int32) (ls st : List Value) (G : mc_H), st.length ≤ 4 → mc_ev X 91 45 ls (.int a3 :: .ref a2 :: .int a1 :: .ref a0 :: st) G = (mc_ev X 107 0 [.ref a0, .int a1, .ref a2, .int a3] [] G).bind (fun q => mc_ev X 91 48 ls (q.1.toList ++ st) q.2)) ∧
  (∀ (v0 v1 v2 v3 v4 v5 v6 v7 v8 v9 v10 : Value) (x : Int32) (st : List Value) (G : mc_H), mc_ev X 91 48 [v0, v1, v2, v3, v4, v5, v6, v7, v8, v9, v10] (.int x :: st) G = mc_ev X 91 50 [v0, v1, v2, v3, v4, v5, v6, v7, v8, v9, .int x] st G) ∧
  (∀ (v0 v1 v2 v3 v4 v5 v6 v7 v8 v9 : Value) (x : Int32) (st : List Value) (G : mc_H), mc_ev X 91 50 [v0, v1, v2, v3, v4, v5, v6, v7, v8, v9, .int x] st G = mc_ev X 91 52 [v0, v1, v2, v3, v4, v5, v6, v7, v8, v9, .int x] (.int x :: st) G) ∧
  (∀ (x : Int32) (ls st : List Value) (G : mc_H), mc_ev X 91 52 ls (.int x :: st) G = if x = 0 then mc_ev X 91 62 ls st G else mc_ev X 91 55 ls st G) ∧
  (∀ (v1 v2 v3 v4 v5 v6 v7 v8 v9 v10 : Value) (x : Nat) (st : List Value) (G : mc_H), mc_ev X 91 55 [.ref x, v1, v2, v3, v4, v5, v6, v7, v8, v9, v10] st G = mc_ev X 91 56 [.ref x, v1, v2, v3, v4, v5, v6, v7, v8, v9, v10] (.ref x :: st) G) ∧
  (∀ (v0 v1 v2 v3 v4 v5 v6 v7 v8 v9 : Value) (x : Int32) (st : List Value) (G : mc_H), mc_ev X 91 56 [v0, v1, v2, v3, v4, v5, v6, v7, v8, v9, .int x] st G = mc_ev X 91 58 [v0, v1, v2, v3, v4, v5, v6, v7, v8, v9, .int x] (.int x :: st) G) ∧
  (∀ (a0 : Int32) (r : Nat) (ls st : List Value) (G : mc_H), st.length ≤ 4 → mc_cls G r = some 7 → mc_ev X 91 58 ls (.int a0 :: .ref r :: st) G = (mc_ev X 104 0 [.ref r, .int a0] [] G).bind (fun q => mc_ev X 91 61 ls (q.1.toList ++ st) q.2)) ∧
  (∀ (v : Int32) (ls : List Value) (G : mc_H), mc_ev X 91 61 ls [.int v] G = some (some (.int v), G)) ∧
  (∀ (v0 v1 v2 v3 v4 v5 v6 v7 v9 v10 : Value) (x : Nat) (st : List Value) (G : mc_H), mc_ev X 91 62 [v0, v1, v2, v3, v4, v5, v6, v7, .ref x, v9, v10] st G = mc_ev X 91 64 [v0, v1, v2, v3, v4, v5, v6, v7, .ref x, v9, v10] (.ref x :: st) G) ∧
  (∀ (v0 v1 v3 v4 v5 v6 v7 v8 v9 v10 : Value) (x : Int32) (st : List Value) (G : mc_H), mc_ev X 91 64 [v0, v1, .int x, v3, v4, v5, v6, v7, v8, v9, v10] st G = mc_ev X 91 65 [v0, v1, .int x, v3, v4, v5, v6, v7, v8, v9, v10] (.int x :: st) G) ∧
  (∀ (v0 v1 v2 v4 v5 v6 v7 v8 v9 v10 : Value) (x : Int32) (st : List Value) (G : mc_H), mc_ev X 91 65 [v0, v1, v2, .int x, v4, v5, v6, v7, v8, v9, v10] st G = mc_ev X 91 66 [v0, v1, v2, .int x, v4, v5, v6, v7, v8, v9, v10] (.int x :: st) G) ∧
  (∀ (v0 v1 v2 v3 v4 v5 v6 v8 v9 v10 : Value) (x : Int32) (st : List Value) (G : mc_H), mc_ev X 91 66 [v0, v1, v2, v3, v4, v5, v6, .int x, v8, v9, v10] st G = mc_ev X 91 68 [v0, v1, v2, v3, v4, v5, v6, .int x, v8, v9, v10] (.int x :: st) G) ∧
  (∀ (a0 : Int32) (a1 : Int32) (a2 : Int32) (r : Nat) (ls st : List Value) (G : mc_H), st.length ≤ 4 → mc_cls G r = some 6 → mc_ev X 91 68 ls (.int a2 :: .int a1 :: .int a0 :: .ref r :: st) G = (mc_ev X 57 0 [.ref r, .int a0, .int a1, .int a2] [] G).bind (fun q => mc_ev X 91 71 ls (q.1.toList ++ st) q.2)) ∧
  (∀ (x : Int32) (ls st : List Value) (G : mc_H), mc_ev X 91 71 ls (.int x :: st) G = if x = 0 then mc_ev X 91 74 ls st G else mc_ev X 91 88 ls st G) ∧
  (∀ (v0 v1 v2 v3 v4 v5 v6 v7 v8 v10 : Value) (x : Nat) (st : List Value) (G : mc_H), mc_ev X 91 74 [v0, v1, v2, v3, v4, v5, v6, v7, v8, .ref x, v10] st G = mc_ev X 91 76 [v0, v1, v2, v3, v4, v5, v6, v7, v8, .ref x, v10] (.ref x :: st) G) ∧
  (∀ (v0 v1 v2 v3 v4 v6 v7 v8 v9 v10 : Value) (x : Int32) (st : List Value) (G : mc_H), mc_ev X 91 76 [v0, v1, v2, v3, v4, .int x, v6, v7, v8, v9, v10] st G = mc_ev X 91 78 [v0, v1, v2, v3, v4, .int x, v6, v7, v8, v9, v10] (.int x :: st) G) ∧
  (∀ (v0 v1 v2 v3 v4 v5 v7 v8 v9 v10 : Value) (x : Int32) (st : List Value) (G : mc_H), mc_ev X 91 78 [v0, v1, v2, v3, v4, v5, .int x, v7, v8, v9, v10] st G = mc_ev X 91 80 [v0, v1, v2, v3, v4, v5, .int x, v7, v8, v9, v10] (.int x :: st) G) ∧
  (∀ (v0 v1 v2 v3 v4 v5 v6 v8 v9 v10 : Value) (x : Int32) (st : List Value) (G : mc_H), mc_ev X 91 80 [v0, v1, v2, v3, v4, v5, v6, .int x, v8, v9, v10] st G = mc_ev X 91 82 [v0, v1, v2, v3, v4, v5, v6, .int x, v8, v9, v10] (.int x :: st) G) ∧
  (∀ (a0 : Int32) (a1 : Int32) (a2 : Int32) (r : Nat) (ls st : List Value) (G : mc_H), st.length ≤ 4 → mc_cls G r = some 6 → mc_ev X 91 82 ls (.int a2 :: .int a1 :: .int a0 :: .ref r :: st) G = (mc_ev X 57 0 [.ref r, .int a0, .int a1, .int a2] [] G).bind (fun q => mc_ev X 91 85 ls (q.1.toList ++ st) q.2)) ∧
  (∀ (x : Int32) (ls st : List Value) (G : mc_H), mc_ev X 91 85 ls (.int x :: st) G = if x = 0 then mc_ev X 91 95 ls st G else mc_ev X 91 88 ls st G) ∧
  (∀ (v1 v2 v3 v4 v5 v6 v7 v8 v9 v10 : Value) (x : Nat) (st : List Value) (G : mc_H), mc_ev X 91 88 [.ref x, v1, v2, v3, v4, v5, v6, v7, v8, v9, v10] st G = mc_ev X 91 89 [.ref x, v1, v2, v3, v4, v5, v6, v7, v8, v9, v10] (.ref x :: st) G) ∧
  (∀ (ls st : List Value) (G : mc_H), mc_ev X 91 89 ls st G = mc_ev X 91 91 ls (.int (-12) :: st) G) ∧
  (∀ (a0 : Int32) (r : Nat) (ls st : List Value) (G : mc_H), st.length ≤ 4 → mc_cls G r = some 7 → mc_ev X 91 91 ls (.int a0 :: .ref r :: st) G = (mc_ev X 104 0 [.ref r, .int a0] [] G).bind (fun q => mc_ev X 91 94 ls (q.1.toList ++ st) q.2)) ∧
  (∀ (v : Int32) (ls : List Value) (G : mc_H), mc_ev X 91 94 ls [.int v] G = some (some (.int v), G)) ∧
  (∀ (v0 v1 v2 v3 v4 v5 v6 v7 v9 v10 : Value) (x : Nat) (st : List Value) (G : mc_H), mc_ev X 91 95 [v0, v1, v2, v3, v4, v5, v6, v7, .ref x, v9, v10] st G = mc_ev X 91 97 [v0, v1, v2, v3, v4, v5, v6, v7, .ref x, v9, v10] (.ref x :: st) G) ∧
  (∀ (r : Nat) (ls st : List Value) (G : mc_H), mc_ev X 91 97 ls (.ref r :: st) G = (mc_getf G r 6 3).bind (fun v => mc_ev X 91 100 ls (v :: st) G)) ∧
  (∀ (v0 v1 v2 v3 v4 v5 v6 v7 v9 v10 : Value) (x : Nat) (st : List Value) (G : mc_H), mc_ev X 91 100 [v0, v1, v2, v3, v4, v5, v6, v7, .ref x, v9, v10] st G = mc_ev X 91 102 [v0, v1, v2, v3, v4, v5, v6, v7, .ref x, v9, v10] (.ref x :: st) G) ∧
  (∀ (v0 v1 v3 v4 v5 v6 v7 v8 v9 v10 : Value) (x : Int32) (st : List Value) (G : mc_H), mc_ev X 91 102 [v0, v1, .int x, v3, v4, v5, v6, v7, v8, v9, v10] st G = mc_ev X 91 103 [v0, v1, .int x, v3, v4, v5, v6, v7, v8, v9, v10] (.int x :: st) G) ∧
  (∀ (v0 v1 v2 v4 v5 v6 v7 v8 v9 v10 : Value) (x : Int32) (st : List Value) (G : mc_H), mc_ev X 91 103 [v0, v1, v2, .int x, v4, v5, v6, v7, v8, v9, v10] st G = mc_ev X 91 104 [v0, v1, v2, .int x, v4, v5, v6, v7, v8, v9, v10] (.int x :: st) G) ∧
  (∀ (a0 : Int32) (a1 : Int32) (r : Nat) (ls st : List Value) (G : mc_H), st.length ≤ 4 → mc_cls G r = some 6 → mc_ev X 91 104 ls (.int a1 :: .int a0 :: .ref r :: st) G = (mc_ev X 54 0 [.ref r, .int a0, .int a1] [] G).bind (fun q => mc_ev X 91 107 ls (q.1.toList ++ st) q.2)) ∧
  (∀ (v0 v1 v2 v3 v4 v5 v6 v7 v8 v10 : Value) (x : Nat) (st : List Value) (G : mc_H), mc_ev X 91 107 [v0, v1, v2, v3, v4, v5, v6, v7, v8, .ref x, v10] st G = mc_ev X 91 109 [v0, v1, v2, v3, v4, v5, v6, v7, v8, .ref x, v10] (.ref x :: st) G) ∧
  (∀ (r : Nat) (ls st : List Value) (G : mc_H), mc_ev X 91 109 ls (.ref r :: st) G = (mc_getf G r 6 3).bind (fun v => mc_ev X 91 112 ls (v :: st) G)) ∧
  (∀ (v0 v1 v2 v3 v4 v5 v6 v7 v8 v10 : Value) (x : Nat) (st : List Value) (G : mc_H), mc_ev X 91 112 [v0, v1, v2, v3, v4, v5, v6, v7, v8, .ref x, v10] st G = mc_ev X 91 114 [v0, v1, v2, v3, v4, v5, v6, v7, v8, .ref x, v10] (.ref x :: st) G) ∧
  (∀ (v0 v1 v2 v3 v4 v6 v7 v8 v9 v10 : Value) (x : Int32) (st : List Value) (G : mc_H), mc_ev X 91 114 [v0, v1, v2, v3, v4, .int x, v6, v7, v8, v9, v10] st G = mc_ev X 91 116 [v0, v1, v2, v3, v4, .int x, v6, v7, v8, v9, v10] (.int x :: st) G) ∧
  (∀ (v0 v1 v2 v3 v4 v5 v7 v8 v9 v10 : Value) (x : Int32) (st : List Value) (G : mc_H), mc_ev X 91 116 [v0, v1, v2, v3, v4, v5, .int x, v7, v8, v9, v10] st G = mc_ev X 91 118 [v0, v1, v2, v3, v4, v5, .int x, v7, v8, v9, v10] (.int x :: st) G) ∧
  (∀ (a0 : Int32) (a1 : Int32) (r : Nat) (ls st : List Value) (G : mc_H), st.length ≤ 4 → mc_cls G r = some 6 → mc_ev X 91 118 ls (.int a1 :: .int a0 :: .ref r :: st) G = (mc_ev X 54 0 [.ref r, .int a0, .int a1] [] G).bind (fun q => mc_ev X 91 121 ls (q.1.toList ++ st) q.2)) ∧
  (∀ (v0 v1 v2 v3 v4 v5 v6 v8 v9 v10 : Value) (x : Int32) (st : List Value) (G : mc_H), mc_ev X 91 121 [v0, v1, v2, v3, v4, v5, v6, .int x, v8, v9, v10] st G = mc_ev X 91 123 [v0, v1, v2, v3, v4, v5, v6, .int x, v8, v9, v10] (.int x :: st) G) ∧
  (∀ (n dp sp : Int32) (a1 a0 : Nat) (ls st : List Value) (G : mc_H), st.length ≤ 4 → mc_ev X 91 123 ls (.int n :: .int dp :: .ref a1 :: .int sp :: .ref a0 :: st) G = (mc_cpy G a0 a1 sp dp n).bind (fun G' => mc_ev X 91 126 ls st G')) ∧
  (∀ (v1 v2 v3 v4 v5 v6 v7 v8 v9 v10 : Value) (x : Nat) (st : List Value) (G : mc_H), mc_ev X 91 126 [.ref x, v1, v2, v3, v4, v5, v6, v7, v8, v9, v10] st G = mc_ev X 91 127 [.ref x, v1, v2, v3, v4, v5, v6, v7, v8, v9, v10] (.ref x :: st) G) ∧
  (∀ (v0 v1 v2 v3 v4 v5 v6 v8 v9 v10 : Value) (x : Int32) (st : List Value) (G : mc_H), mc_ev X 91 127 [v0, v1, v2, v3, v4, v5, v6, .int x, v8, v9, v10] st G = mc_ev X 91 129 [v0, v1, v2, v3, v4, v5, v6, .int x, v8, v9, v10] (.int x :: st) G) ∧
  (∀ (a0 : Int32) (r : Nat) (ls st : List Value) (G : mc_H), st.length ≤ 4 → mc_cls G r = some 7 → mc_ev X 91 129 ls (.int a0 :: .ref r :: st) G = (mc_ev X 105 0 [.ref r, .int a0] [] G).bind (fun q => mc_ev X 91 132 ls (q.1.toList ++ st) q.2)) ∧
  (∀ (v : Int32) (ls : List Value) (G : mc_H), mc_ev X 91 132 ls [.int v] G = some (some (.int v), G)) := ⟨fun v0 v2 v3 v4 v5 v6 v7 v8 v9 v10 x st G => ev_iload_n rfl rfl,
  fun a0 ls st G hr => ev_stat (As := [.int a0]) rfl (by decide) rfl rfl rfl rfl hr,
  fun x ls st G => ev_br rfl rfl,
  fun v0 v1 v2 v3 v5 v6 v7 v8 v9 v10 x st G => ev_iload rfl rfl,
  fun a0 ls st G hr => ev_stat (As := [.int a0]) rfl (by decide) rfl rfl rfl rfl hr,
  fun x ls st G => ev_br rfl rfl,
  fun v1 v2 v3 v4 v5 v6 v7 v8 v9 v10 x st G => ev_aload_n rfl rfl,
  fun ls st G => ev_iconst rfl rfl,
  fun a0 r ls st G hr hG => ev_virt (As := [.int a0]) rfl rfl rfl rfl rfl rfl hr hG,
  fun v ls G => ev_ireturn rfl rfl,
  fun v1 v2 v3 v4 v5 v6 v7 v8 v9 v10 x st G => ev_aload_n rfl rfl,
  fun r ls st G => ev_getfield rfl,
  fun v0 v2 v3 v4 v5 v6 v7 v8 v9 v10 x st G => ev_iload_n rfl rfl,
  fun i r ls st G => ev_aaload rfl,
  fun v0 v1 v2 v3 v4 v5 v6 v7 v8 v9 v10 x st G => ev_astore (X := X) (k := 91) (pc := 27) (ls := [v0, v1, v2, v3, v4, v5, v6, v7, v8, v9, v10]) (st := st) (G := G) (j := 8) (x := x) rfl (Nat.le_of_ble_eq_true rfl),
  fun v1 v2 v3 v4 v5 v6 v7 v8 v9 v10 x st G => ev_aload_n rfl rfl,
  fun r ls st G => ev_getfield rfl,
  fun v0 v1 v2 v3 v5 v6 v7 v8 v9 v10 x st G => ev_iload rfl rfl,
  fun i r ls st G => ev_aaload rfl,
  fun v0 v1 v2 v3 v4 v5 v6 v7 v8 v9 v10 x st G => ev_astore (X := X) (k := 91) (pc := 36) (ls := [v0, v1, v2, v3, v4, v5, v6, v7, v8, v9, v10]) (st := st) (G := G) (j := 9) (x := x) rfl (Nat.le_of_ble_eq_true rfl),
  fun v0 v1 v2 v3 v4 v5 v6 v7 v9 v10 x st G => ev_aload rfl rfl,
  fun v0 v1 v3 v4 v5 v6 v7 v8 v9 v10 x st G => ev_iload_n rfl rfl,
  fun v0 v1 v2 v3 v4 v5 v6 v7 v8 v10 x st G => ev_aload rfl rfl,
  fun v0 v1 v2 v3 v4 v6 v7 v8 v9 v10 x st G => ev_iload rfl rfl,
  fun a0 a1 a2 a3 ls st G hr => ev_stat (As := [.ref a0, .int a1, .ref a2, .int a3]) rfl (by decide) rfl rfl rfl rfl hr,
  fun v0 v1 v2 v3 v4 v5 v6 v7 v8 v9 v10 x st G => ev_istore (X := X) (k := 91) (pc := 48) (ls := [v0, v1, v2, v3, v4, v5, v6, v7, v8, v9, v10]) (st := st) (G := G) (j := 10) (x := x) rfl (Nat.le_of_ble_eq_true rfl),
  fun v0 v1 v2 v3 v4 v5 v6 v7 v8 v9 x st G => ev_iload rfl rfl,
  fun x ls st G => ev_br rfl rfl,
  fun v1 v2 v3 v4 v5 v6 v7 v8 v9 v10 x st G => ev_aload_n rfl rfl,
  fun v0 v1 v2 v3 v4 v5 v6 v7 v8 v9 x st G => ev_iload rfl rfl,
  fun a0 r ls st G hr hG => ev_virt (As := [.int a0]) rfl rfl rfl rfl rfl rfl hr hG,
  fun v ls G => ev_ireturn rfl rfl,
  fun v0 v1 v2 v3 v4 v5 v6 v7 v9 v10 x st G => ev_aload rfl rfl,
  fun v0 v1 v3 v4 v5 v6 v7 v8 v9 v10 x st G => ev_iload_n rfl rfl,
  fun v0 v1 v2 v4 v5 v6 v7 v8 v9 v10 x st G => ev_iload_n rfl rfl,
  fun v0 v1 v2 v3 v4 v5 v6 v8 v9 v10 x st G => ev_iload rfl rfl,
  fun a0 a1 a2 r ls st G hr hG => ev_virt (As := [.int a0, .int a1, .int a2]) rfl rfl rfl rfl rfl rfl hr hG,
  fun x ls st G => ev_br rfl rfl,
  fun v0 v1 v2 v3 v4 v5 v6 v7 v8 v10 x st G => ev_aload rfl rfl,
  fun v0 v1 v2 v3 v4 v6 v7 v8 v9 v10 x st G => ev_iload rfl rfl,
  fun v0 v1 v2 v3 v4 v5 v7 v8 v9 v10 x st G => ev_iload rfl rfl,
  fun v0 v1 v2 v3 v4 v5 v6 v8 v9 v10 x st G => ev_iload rfl rfl,
  fun a0 a1 a2 r ls st G hr hG => ev_virt (As := [.int a0, .int a1, .int a2]) rfl rfl rfl rfl rfl rfl hr hG,
  fun x ls st G => ev_br rfl rfl,
  fun v1 v2 v3 v4 v5 v6 v7 v8 v9 v10 x st G => ev_aload_n rfl rfl,
  fun ls st G => ev_bipush rfl rfl,
  fun a0 r ls st G hr hG => ev_virt (As := [.int a0]) rfl rfl rfl rfl rfl rfl hr hG,
  fun v ls G => ev_ireturn rfl rfl,
  fun v0 v1 v2 v3 v4 v5 v6 v7 v9 v10 x st G => ev_aload rfl rfl,
  fun r ls st G => ev_getfield rfl,
  fun v0 v1 v2 v3 v4 v5 v6 v7 v9 v10 x st G => ev_aload rfl rfl,
  fun v0 v1 v3 v4 v5 v6 v7 v8 v9 v10 x st G => ev_iload_n rfl rfl,
  fun v0 v1 v2 v4 v5 v6 v7 v8 v9 v10 x st G => ev_iload_n rfl rfl,
  fun a0 a1 r ls st G hr hG => ev_virt (As := [.int a0, .int a1]) rfl rfl rfl rfl rfl rfl hr hG,
  fun v0 v1 v2 v3 v4 v5 v6 v7 v8 v10 x st G => ev_aload rfl rfl,
  fun r ls st G => ev_getfield rfl,
  fun v0 v1 v2 v3 v4 v5 v6 v7 v8 v10 x st G => ev_aload rfl rfl,
  fun v0 v1 v2 v3 v4 v6 v7 v8 v9 v10 x st G => ev_iload rfl rfl,
  fun v0 v1 v2 v3 v4 v5 v7 v8 v9 v10 x st G => ev_iload rfl rfl,
  fun a0 a1 r ls st G hr hG => ev_virt (As := [.int a0, .int a1]) rfl rfl rfl rfl rfl rfl hr hG,
  fun v0 v1 v2 v3 v4 v5 v6 v8 v9 v10 x st G => ev_iload rfl rfl,
  fun n dp sp a1 a0 ls st G hr => ev_copy rfl hr,
  fun v1 v2 v3 v4 v5 v6 v7 v8 v9 v10 x st G => ev_aload_n rfl rfl,
  fun v0 v1 v2 v3 v4 v5 v6 v8 v9 v10 x st G => ev_iload rfl rfl,
  fun a0 r ls st G hr hG => ev_virt (As := [.int a0]) rfl rfl rfl rfl rfl rfl hr hG,
  fun v ls G => ev_ireturn rfl rfl⟩
theorem h_92_72 {X : mc_X} : ∀ (v0 v1 v2 v3 v4 v5 : Value) (x : Int32) (st : List Value) (G : mc_H), mc_ev X 92 72 [v0, v1, v2, v3, v4, v5, .int x] st G = mc_ev X 92 74 [v0, v1, v2, v3, v4, v5, .int x] (.int x :: st) G := fun v0 v1 v2 v3 v4 v5 x st G => ev_iload rfl rfl
theorem e_92 {X : mc_X} : (∀ (v0 v2 v3 v4 v5 v6 : Value) (x : Int32) (st : List Value) (G : mc_H), mc_ev X 92 0 [v0, .int x, v2, v3, v4, v5, v6] st G = mc_ev X 92 1 [v0, .int x, v2, v3, v4, v5, v6] (.int x :: st) G) ∧
  (∀ (a0 : Int32) (ls st : List Value) (G : mc_H), st.length ≤ 4 → mc_ev X 92 1 ls (.int a0 :: st) G = (mc_ev X 101 0 [.int a0] [] G).bind (fun q => mc_ev X 92 4 ls (q.1.toList ++ st) q.2)) ∧
  (∀ (x : Int32) (ls st : List Value) (G : mc_H), mc_ev X 92 4 ls (.int x :: st) G = if x = 0 then mc_ev X 92 7 ls st G else mc_ev X 92 33 ls st G) ∧
  (∀ (v0 v1 v2 v4 v5 v6 : Value) (x : Int32) (st : List Value) (G : mc_H), mc_ev X 92 7 [v0, v1, v2, .int x, v4, v5, v6] st G = mc_ev X 92 8 [v0, v1, v2, .int x, v4, v5, v6] (.int x :: st) G) ∧
  (∀ (x : Int32) (ls st : List Value) (G : mc_H), mc_ev X 92 8 ls (.int x :: st) G = if x < 0 then mc_ev X 92 33 ls st G else mc_ev X 92 11 ls st G) ∧
  (∀ (v0 v1 v2 v3 v5 v6 : Value) (x : Int32) (st : List Value) (G : mc_H), mc_ev X 92 11 [v0, v1, v2, v3, .int x, v5, v6] st G = mc_ev X 92 13 [v0, v1, v2, v3, .int x, v5, v6] (.int x :: st) G) ∧
  (∀ (x : Int32) (ls st : List Value) (G : mc_H), mc_ev X 92 13 ls (.int x :: st) G = if x < 0 then mc_ev X 92 33 ls st G else mc_ev X 92 16 ls st G) ∧
  (∀ (v0 v1 v2 v3 v5 v6 : Value) (x : Int32) (st : List Value) (G : mc_H), mc_ev X 92 16 [v0, v1, v2, v3, .int x, v5, v6] st G = mc_ev X 92 18 [v0, v1, v2, v3, .int x, v5, v6] (.int x :: st) G) ∧
  (∀ (v1 v2 v3 v4 v5 v6 : Value) (x : Nat) (st : List Value) (G : mc_H), mc_ev X 92 18 [.ref x, v1, v2, v3, v4, v5, v6] st G = mc_ev X 92 19 [.ref x, v1, v2, v3, v4, v5, v6] (.ref x :: st) G) ∧
  (∀ (r : Nat) (ls st : List Value) (G : mc_H), mc_ev X 92 19 ls (.ref r :: st) G = (mc_getf G r 7 0).bind (fun v => mc_ev X 92 22 ls (v :: st) G)) ∧
  (∀ (r : Nat) (ls st : List Value) (G : mc_H), mc_ev X 92 22 ls (.ref r :: st) G = (mc_getf G r 4 0).bind (fun v => mc_ev X 92 25 ls (v :: st) G)) ∧
  (∀ (r : Nat) (ls st : List Value) (G : mc_H), mc_ev X 92 25 ls (.ref r :: st) G = (mc_getf G r 0 3).bind (fun v => mc_ev X 92 28 ls (v :: st) G)) ∧
  (∀ (v0 v1 v2 v4 v5 v6 : Value) (x : Int32) (st : List Value) (G : mc_H), mc_ev X 92 28 [v0, v1, v2, .int x, v4, v5, v6] st G = mc_ev X 92 29 [v0, v1, v2, .int x, v4, v5, v6] (.int x :: st) G) ∧
  (∀ (x y : Int32) (ls st : List Value) (G : mc_H), mc_ev X 92 29 ls (.int y :: .int x :: st) G = mc_ev X 92 30 ls (.int (x - y) :: st) G) ∧
  (∀ (x y : Int32) (ls st : List Value) (G : mc_H), mc_ev X 92 30 ls (.int y :: .int x :: st) G = if y < x then mc_ev X 92 33 ls st G else mc_ev X 92 39 ls st G) ∧
  (∀ (v1 v2 v3 v4 v5 v6 : Value) (x : Nat) (st : List Value) (G : mc_H), mc_ev X 92 33 [.ref x, v1, v2, v3, v4, v5, v6] st G = mc_ev X 92 34 [.ref x, v1, v2, v3, v4, v5, v6] (.ref x :: st) G) ∧
  (∀ (ls st : List Value) (G : mc_H), mc_ev X 92 34 ls st G = mc_ev X 92 35 ls (.int (-1) :: st) G) ∧
  (∀ (a0 : Int32) (r : Nat) (ls st : List Value) (G : mc_H), st.length ≤ 4 → mc_cls G r = some 7 → mc_ev X 92 35 ls (.int a0 :: .ref r :: st) G = (mc_ev X 104 0 [.ref r, .int a0] [] G).bind (fun q => mc_ev X 92 38 ls (q.1.toList ++ st) q.2)) ∧
  (∀ (v : Int32) (ls : List Value) (G : mc_H), mc_ev X 92 38 ls [.int v] G = some (some (.int v), G)) ∧
  (∀ (v1 v2 v3 v4 v5 v6 : Value) (x : Nat) (st : List Value) (G : mc_H), mc_ev X 92 39 [.ref x, v1, v2, v3, v4, v5, v6] st G = mc_ev X 92 40 [.ref x, v1, v2, v3, v4, v5, v6] (.ref x :: st) G) ∧
  (∀ (r : Nat) (ls st : List Value) (G : mc_H), mc_ev X 92 40 ls (.ref r :: st) G = (mc_getf G r 7 4).bind (fun v => mc_ev X 92 43 ls (v :: st) G)) ∧
  (∀ (v0 v2 v3 v4 v5 v6 : Value) (x : Int32) (st : List Value) (G : mc_H), mc_ev X 92 43 [v0, .int x, v2, v3, v4, v5, v6] st G = mc_ev X 92 44 [v0, .int x, v2, v3, v4, v5, v6] (.int x :: st) G) ∧
  (∀ (i : Int32) (r : Nat) (ls st : List Value) (G : mc_H), mc_ev X 92 44 ls (.int i :: .ref r :: st) G = (mc_getQ G r i).bind (fun x => mc_ev X 92 45 ls (.ref x :: st) G)) ∧
  (∀ (v0 v1 v3 v4 v5 v6 : Value) (x : Int32) (st : List Value) (G : mc_H), mc_ev X 92 45 [v0, v1, .int x, v3, v4, v5, v6] st G = mc_ev X 92 46 [v0, v1, .int x, v3, v4, v5, v6] (.int x :: st) G) ∧
  (∀ (v0 v1 v2 v3 v5 v6 : Value) (x : Int32) (st : List Value) (G : mc_H), mc_ev X 92 46 [v0, v1, v2, v3, .int x, v5, v6] st G = mc_ev X 92 48 [v0, v1, v2, v3, .int x, v5, v6] (.int x :: st) G) ∧
  (∀ (a0 : Nat) (a1 : Int32) (a2 : Int32) (ls st : List Value) (G : mc_H), st.length ≤ 4 → mc_ev X 92 48 ls (.int a2 :: .int a1 :: .ref a0 :: st) G = (mc_ev X 108 0 [.ref a0, .int a1, .int a2, .null, .null] [] G).bind (fun q => mc_ev X 92 51 ls (q.1.toList ++ st) q.2)) ∧
  (∀ (v0 v1 v2 v3 v4 v5 v6 : Value) (x : Int32) (st : List Value) (G : mc_H), mc_ev X 92 51 [v0, v1, v2, v3, v4, v5, v6] (.int x :: st) G = mc_ev X 92 53 [v0, v1, v2, v3, v4, .int x, v6] st G) ∧
  (∀ (v0 v1 v2 v3 v4 v6 : Value) (x : Int32) (st : List Value) (G : mc_H), mc_ev X 92 53 [v0, v1, v2, v3, v4, .int x, v6] st G = mc_ev X 92 55 [v0, v1, v2, v3, v4, .int x, v6] (.int x :: st) G) ∧
  (∀ (x : Int32) (ls st : List Value) (G : mc_H), mc_ev X 92 55 ls (.int x :: st) G = if x = 0 then mc_ev X 92 65 ls st G else mc_ev X 92 58 ls st G) ∧
  (∀ (v1 v2 v3 v4 v5 v6 : Value) (x : Nat) (st : List Value) (G : mc_H), mc_ev X 92 58 [.ref x, v1, v2, v3, v4, v5, v6] st G = mc_ev X 92 59 [.ref x, v1, v2, v3, v4, v5, v6] (.ref x :: st) G) ∧
  (∀ (v0 v1 v2 v3 v4 v6 : Value) (x : Int32) (st : List Value) (G : mc_H), mc_ev X 92 59 [v0, v1, v2, v3, v4, .int x, v6] st G = mc_ev X 92 61 [v0, v1, v2, v3, v4, .int x, v6] (.int x :: st) G) ∧
  (∀ (a0 : Int32) (r : Nat) (ls st : List Value) (G : mc_H), st.length ≤ 4 → mc_cls G r = some 7 → mc_ev X 92 61 ls (.int a0 :: .ref r :: st) G = (mc_ev X 104 0 [.ref r, .int a0] [] G).bind (fun q => mc_ev X 92 64 ls (q.1.toList ++ st) q.2)) ∧
  (∀ (v : Int32) (ls : List Value) (G : mc_H), mc_ev X 92 64 ls [.int v] G = some (some (.int v), G)) ∧
  (∀ (v1 v2 v3 v4 v5 v6 : Value) (x : Nat) (st : List Value) (G : mc_H), mc_ev X 92 65 [.ref x, v1, v2, v3, v4, v5, v6] st G = mc_ev X 92 66 [.ref x, v1, v2, v3, v4, v5, v6] (.ref x :: st) G) ∧
  (∀ (r : Nat) (ls st : List Value) (G : mc_H), st.length ≤ 4 → mc_cls G r = some 7 → mc_ev X 92 66 ls (.ref r :: st) G = (mc_ev X 109 0 [.ref r] [] G).bind (fun q => mc_ev X 92 69 ls (q.1.toList ++ st) q.2)) ∧
  (∀ (ls st : List Value) (G : mc_H), mc_ev X 92 69 ls st G = mc_ev X 92 70 ls (.int 0 :: st) G) ∧
  (∀ (v0 v1 v2 v3 v4 v5 v6 : Value) (x : Int32) (st : List Value) (G : mc_H), mc_ev X 92 70 [v0, v1, v2, v3, v4, v5, v6] (.int x :: st) G = mc_ev X 92 72 [v0, v1, v2, v3, v4, v5, .int x] st G) ∧
  (∀ (v0 v1 v2 v3 v5 v6 : Value) (x : Int32) (st : List Value) (G : mc_H), mc_ev X 92 74 [v0, v1, v2, v3, .int x, v5, v6] st G = mc_ev X 92 76 [v0, v1, v2, v3, .int x, v5, v6] (.int x :: st) G) ∧
  (∀ (x y : Int32) (ls st : List Value) (G : mc_H), mc_ev X 92 76 ls (.int y :: .int x :: st) G = if x < y then mc_ev X 92 79 ls st G else mc_ev X 92 112 ls st G) ∧
  (∀ (v1 v2 v3 v4 v5 v6 : Value) (x : Nat) (st : List Value) (G : mc_H), mc_ev X 92 79 [.ref x, v1, v2, v3, v4, v5, v6] st G = mc_ev X 92 80 [.ref x, v1, v2, v3, v4, v5, v6] (.ref x :: st) G) ∧
  (∀ (r : Nat) (ls st : List Value) (G : mc_H), mc_ev X 92 80 ls (.ref r :: st) G = (mc_getf G r 7 0).bind (fun v => mc_ev X 92 83 ls (v :: st) G)) ∧
  (∀ (r : Nat) (ls st : List Value) (G : mc_H), mc_ev X 92 83 ls (.ref r :: st) G = (mc_getf G r 4 1).bind (fun v => mc_ev X 92 86 ls (v :: st) G)) ∧
  (∀ (r : Nat) (ls st : List Value) (G : mc_H), mc_ev X 92 86 ls (.ref r :: st) G = (mc_getf G r 5 4).bind (fun v => mc_ev X 92 89 ls (v :: st) G)) ∧
  (∀ (v0 v1 v2 v4 v5 v6 : Value) (x : Int32) (st : List Value) (G : mc_H), mc_ev X 92 89 [v0, v1, v2, .int x, v4, v5, v6] st G = mc_ev X 92 90 [v0, v1, v2, .int x, v4, v5, v6] (.int x :: st) G) ∧
  (∀ (v0 v1 v2 v3 v4 v5 : Value) (x : Int32) (st : List Value) (G : mc_H), mc_ev X 92 90 [v0, v1, v2, v3, v4, v5, .int x] st G = mc_ev X 92 92 [v0, v1, v2, v3, v4, v5, .int x] (.int x :: st) G) ∧
  (∀ (x y : Int32) (ls st : List Value) (G : mc_H), mc_ev X 92 92 ls (.int y :: .int x :: st) G = mc_ev X 92 93 ls (.int (x + y) :: st) G) ∧
  (∀ (v1 v2 v3 v4 v5 v6 : Value) (x : Nat) (st : List Value) (G : mc_H), mc_ev X 92 93 [.ref x, v1, v2, v3, v4, v5, v6] st G = mc_ev X 92 94 [.ref x, v1, v2, v3, v4, v5, v6] (.ref x :: st) G) ∧
  (∀ (r : Nat) (ls st : List Value) (G : mc_H), mc_ev X 92 94 ls (.ref r :: st) G = (mc_getf G r 7 4).bind (fun v => mc_ev X 92 97 ls (v :: st) G)) ∧
  (∀ (v0 v2 v3 v4 v5 v6 : Value) (x : Int32) (st : List Value) (G : mc_H), mc_ev X 92 97 [v0, .int x, v2, v3, v4, v5, v6] st G = mc_ev X 92 98 [v0, .int x, v2, v3, v4, v5, v6] (.int x :: st) G) ∧
  (∀ (i : Int32) (r : Nat) (ls st : List Value) (G : mc_H), mc_ev X 92 98 ls (.int i :: .ref r :: st) G = (mc_getQ G r i).bind (fun x => mc_ev X 92 99 ls (.ref x :: st) G)) ∧
  (∀ (v0 v1 v3 v4 v5 v6 : Value) (x : Int32) (st : List Value) (G : mc_H), mc_ev X 92 99 [v0, v1, .int x, v3, v4, v5, v6] st G = mc_ev X 92 100 [v0, v1, .int x, v3, v4, v5, v6] (.int x :: st) G) ∧
  (∀ (v0 v1 v2 v3 v4 v5 : Value) (x : Int32) (st : List Value) (G : mc_H), mc_ev X 92 100 [v0, v1, v2, v3, v4, v5, .int x] st G = mc_ev X 92 102 [v0, v1, v2, v3, v4, v5, .int x] (.int x :: st) G) ∧
  (∀ (a0 : Int32) (a1 : Int32) (r : Nat) (ls st : List Value) (G : mc_H), st.length ≤ 4 → mc_cls G r = some 6 → mc_ev X 92 102 ls (.int a1 :: .int a0 :: .ref r :: st) G = (mc_ev X 55 0 [.ref r, .int a0, .int a1] [] G).bind (fun q => mc_ev X 92 105 ls (q.1.toList ++ st) q.2)) ∧
  (∀ (x i : Int32) (r : Nat) (ls st : List Value) (G : mc_H), mc_ev X 92 105 ls (.int x :: .int i :: .ref r :: st) G = (mc_setA G 0 r i x).bind (fun G' => mc_ev X 92 106 ls st G')) ∧
  (∀ (v0 v1 v2 v3 v4 v5 : Value) (x : Int32) (st : List Value) (G : mc_H), mc_ev X 92 106 [v0, v1, v2, v3, v4, v5, .int x] st G = mc_ev X 92 109 [v0, v1, v2, v3, v4, v5, .int (x + 1)] st G) ∧
  (∀ (ls st : List Value) (G : mc_H), mc_ev X 92 109 ls st G = mc_ev X 92 72 ls st G) ∧
  (∀ (v1 v2 v3 v4 v5 v6 : Value) (x : Nat) (st : List Value) (G : mc_H), mc_ev X 92 112 [.ref x, v1, v2, v3, v4, v5, v6] st G = mc_ev X 92 113 [.ref x, v1, v2, v3, v4, v5, v6] (.ref x :: st) G) ∧
  (∀ (v0 v1 v2 v3 v5 v6 : Value) (x : Int32) (st : List Value) (G : mc_H), mc_ev X 92 113 [v0, v1, v2, v3, .int x, v5, v6] st G = mc_ev X 92 115 [v0, v1, v2, v3, .int x, v5, v6] (.int x :: st) G) ∧
  (∀ (a0 : Int32) (r : Nat) (ls st : List Value) (G : mc_H), st.length ≤ 4 → mc_cls G r = some 7 → mc_ev X 92 115 ls (.int a0 :: .ref r :: st) G = (mc_ev X 105 0 [.ref r, .int a0] [] G).bind (fun q => mc_ev X 92 118 ls (q.1.toList ++ st) q.2)) ∧
  (∀ (v : Int32) (ls : List Value) (G : mc_H), mc_ev X 92 118 ls [.int v] G = some (some (.int v), G)) := ⟨fun v0 v2 v3 v4 v5 v6 x st G => ev_iload_n rfl rfl,
  fun a0 ls st G hr => ev_stat (As := [.int a0]) rfl (by decide) rfl rfl rfl rfl hr,
  fun x ls st G => ev_br rfl rfl,
  fun v0 v1 v2 v4 v5 v6 x st G => ev_iload_n rfl rfl,
  fun x ls st G => ev_br rfl rfl,
  fun v0 v1 v2 v3 v5 v6 x st G => ev_iload rfl rfl,
  fun x ls st G => ev_br rfl rfl,
  fun v0 v1 v2 v3 v5 v6 x st G => ev_iload rfl rfl,
  fun v1 v2 v3 v4 v5 v6 x st G => ev_aload_n rfl rfl,
  fun r ls st G => ev_getfield rfl,
  fun r ls st G => ev_getfield rfl,
  fun r ls st G => ev_getfield rfl,
  fun v0 v1 v2 v4 v5 v6 x st G => ev_iload_n rfl rfl,
  fun x y ls st G => ev_isub rfl,
  fun x y ls st G => ev_br rfl rfl,
  fun v1 v2 v3 v4 v5 v6 x st G => ev_aload_n rfl rfl,
  fun ls st G => ev_iconst rfl rfl,
  fun a0 r ls st G hr hG => ev_virt (As := [.int a0]) rfl rfl rfl rfl rfl rfl hr hG,
  fun v ls G => ev_ireturn rfl rfl,
  fun v1 v2 v3 v4 v5 v6 x st G => ev_aload_n rfl rfl,
  fun r ls st G => ev_getfield rfl,
  fun v0 v2 v3 v4 v5 v6 x st G => ev_iload_n rfl rfl,
  fun i r ls st G => ev_aaload rfl,
  fun v0 v1 v3 v4 v5 v6 x st G => ev_iload_n rfl rfl,
  fun v0 v1 v2 v3 v5 v6 x st G => ev_iload rfl rfl,
  fun a0 a1 a2 ls st G hr => ev_stat (As := [.ref a0, .int a1, .int a2]) rfl (by decide) rfl rfl rfl rfl hr,
  fun v0 v1 v2 v3 v4 v5 v6 x st G => ev_istore (X := X) (k := 92) (pc := 51) (ls := [v0, v1, v2, v3, v4, v5, v6]) (st := st) (G := G) (j := 5) (x := x) rfl (Nat.le_of_ble_eq_true rfl),
  fun v0 v1 v2 v3 v4 v6 x st G => ev_iload rfl rfl,
  fun x ls st G => ev_br rfl rfl,
  fun v1 v2 v3 v4 v5 v6 x st G => ev_aload_n rfl rfl,
  fun v0 v1 v2 v3 v4 v6 x st G => ev_iload rfl rfl,
  fun a0 r ls st G hr hG => ev_virt (As := [.int a0]) rfl rfl rfl rfl rfl rfl hr hG,
  fun v ls G => ev_ireturn rfl rfl,
  fun v1 v2 v3 v4 v5 v6 x st G => ev_aload_n rfl rfl,
  fun r ls st G hr hG => ev_virt (As := []) rfl rfl rfl rfl rfl rfl hr hG,
  fun ls st G => ev_iconst rfl rfl,
  fun v0 v1 v2 v3 v4 v5 v6 x st G => ev_istore (X := X) (k := 92) (pc := 70) (ls := [v0, v1, v2, v3, v4, v5, v6]) (st := st) (G := G) (j := 6) (x := x) rfl (Nat.le_of_ble_eq_true rfl),
  fun v0 v1 v2 v3 v5 v6 x st G => ev_iload rfl rfl,
  fun x y ls st G => ev_br rfl rfl,
  fun v1 v2 v3 v4 v5 v6 x st G => ev_aload_n rfl rfl,
  fun r ls st G => ev_getfield rfl,
  fun r ls st G => ev_getfield rfl,
  fun r ls st G => ev_getfield rfl,
  fun v0 v1 v2 v4 v5 v6 x st G => ev_iload_n rfl rfl,
  fun v0 v1 v2 v3 v4 v5 x st G => ev_iload rfl rfl,
  fun x y ls st G => ev_iadd rfl,
  fun v1 v2 v3 v4 v5 v6 x st G => ev_aload_n rfl rfl,
  fun r ls st G => ev_getfield rfl,
  fun v0 v2 v3 v4 v5 v6 x st G => ev_iload_n rfl rfl,
  fun i r ls st G => ev_aaload rfl,
  fun v0 v1 v3 v4 v5 v6 x st G => ev_iload_n rfl rfl,
  fun v0 v1 v2 v3 v4 v5 x st G => ev_iload rfl rfl,
  fun a0 a1 r ls st G hr hG => ev_virt (As := [.int a0, .int a1]) rfl rfl rfl rfl rfl rfl hr hG,
  fun x i r ls st G => ev_iastore rfl,
  fun v0 v1 v2 v3 v4 v5 x st G => ev_iinc (X := X) (k := 92) (pc := 106) (ls := [v0, v1, v2, v3, v4, v5, .int x]) (st := st) (G := G) (j := 6) (n := 1) (x := x) (v := 1) rfl rfl rfl,
  fun ls st G => ev_goto rfl rfl,
  fun v1 v2 v3 v4 v5 v6 x st G => ev_aload_n rfl rfl,
  fun v0 v1 v2 v3 v5 v6 x st G => ev_iload rfl rfl,
  fun a0 r ls st G hr hG => ev_virt (As := [.int a0]) rfl rfl rfl rfl rfl rfl hr hG,
  fun v ls G => ev_ireturn rfl rfl⟩
theorem e_93 {X : mc_X} : (∀ (v0 : Value) (x : Int32) (st : List Value) (G : mc_H), mc_ev X 93 0 [v0, .int x] st G = mc_ev X 93 1 [v0, .int x] (.int x :: st) G) ∧
  (∀ (ls st : List Value) (G : mc_H), mc_ev X 93 1 ls (.int 0 :: st) G = mc_ev X 93 48 ls st G) ∧
  (∀ (ls st : List Value) (G : mc_H), mc_ev X 93 1 ls (.int 1 :: st) G = mc_ev X 93 59 ls st G) ∧
  (∀ (ls st : List Value) (G : mc_H), mc_ev X 93 1 ls (.int 2 :: st) G = mc_ev X 93 70 ls st G) ∧
  (∀ (ls st : List Value) (G : mc_H), mc_ev X 93 1 ls (.int 3 :: st) G = mc_ev X 93 81 ls st G) ∧
  (∀ (ls st : List Value) (G : mc_H), mc_ev X 93 1 ls (.int 4 :: st) G = mc_ev X 93 92 ls st G) ∧
  (∀ (ls st : List Value) (G : mc_H), mc_ev X 93 1 ls (.int 5 :: st) G = mc_ev X 93 103 ls st G) ∧
  (∀ (ls st : List Value) (G : mc_H), mc_ev X 93 1 ls (.int 6 :: st) G = mc_ev X 93 114 ls st G) ∧
  (∀ (ls st : List Value) (G : mc_H), mc_ev X 93 1 ls (.int 7 :: st) G = mc_ev X 93 125 ls st G) ∧
  (∀ (x : Int32) (ls st : List Value) (G : mc_H), (x.toInt < 0 ∨ 7 < x.toInt) → mc_ev X 93 1 ls (.int x :: st) G = mc_ev X 93 133 ls st G) ∧
  (∀ (v1 : Value) (x : Nat) (st : List Value) (G : mc_H), mc_ev X 93 48 [.ref x, v1] st G = mc_ev X 93 49 [.ref x, v1] (.ref x :: st) G) ∧
  (∀ (r : Nat) (ls st : List Value) (G : mc_H), mc_ev X 93 49 ls (.ref r :: st) G = (mc_getf G r 7 0).bind (fun v => mc_ev X 93 52 ls (v :: st) G)) ∧
  (∀ (r : Nat) (ls st : List Value) (G : mc_H), mc_ev X 93 52 ls (.ref r :: st) G = (mc_getf G r 4 0).bind (fun v => mc_ev X 93 55 ls (v :: st) G)) ∧
  (∀ (r : Nat) (ls st : List Value) (G : mc_H), mc_ev X 93 55 ls (.ref r :: st) G = (mc_getf G r 0 0).bind (fun v => mc_ev X 93 58 ls (v :: st) G)) ∧
  (∀ (v : Int32) (ls : List Value) (G : mc_H), mc_ev X 93 58 ls [.int v] G = some (some (.int v), G)) ∧
  (∀ (v1 : Value) (x : Nat) (st : List Value) (G : mc_H), mc_ev X 93 59 [.ref x, v1] st G = mc_ev X 93 60 [.ref x, v1] (.ref x :: st) G) ∧
  (∀ (r : Nat) (ls st : List Value) (G : mc_H), mc_ev X 93 60 ls (.ref r :: st) G = (mc_getf G r 7 0).bind (fun v => mc_ev X 93 63 ls (v :: st) G)) ∧
  (∀ (r : Nat) (ls st : List Value) (G : mc_H), mc_ev X 93 63 ls (.ref r :: st) G = (mc_getf G r 4 0).bind (fun v => mc_ev X 93 66 ls (v :: st) G)) ∧
  (∀ (r : Nat) (ls st : List Value) (G : mc_H), mc_ev X 93 66 ls (.ref r :: st) G = (mc_getf G r 0 1).bind (fun v => mc_ev X 93 69 ls (v :: st) G)) ∧
  (∀ (v : Int32) (ls : List Value) (G : mc_H), mc_ev X 93 69 ls [.int v] G = some (some (.int v), G)) ∧
  (∀ (v1 : Value) (x : Nat) (st : List Value) (G : mc_H), mc_ev X 93 70 [.ref x, v1] st G = mc_ev X 93 71 [.ref x, v1] (.ref x :: st) G) ∧
  (∀ (r : Nat) (ls st : List Value) (G : mc_H), mc_ev X 93 71 ls (.ref r :: st) G = (mc_getf G r 7 0).bind (fun v => mc_ev X 93 74 ls (v :: st) G)) ∧
  (∀ (r : Nat) (ls st : List Value) (G : mc_H), mc_ev X 93 74 ls (.ref r :: st) G = (mc_getf G r 4 0).bind (fun v => mc_ev X 93 77 ls (v :: st) G)) ∧
  (∀ (r : Nat) (ls st : List Value) (G : mc_H), mc_ev X 93 77 ls (.ref r :: st) G = (mc_getf G r 0 2).bind (fun v => mc_ev X 93 80 ls (v :: st) G)) ∧
  (∀ (v : Int32) (ls : List Value) (G : mc_H), mc_ev X 93 80 ls [.int v] G = some (some (.int v), G)) ∧
  (∀ (v1 : Value) (x : Nat) (st : List Value) (G : mc_H), mc_ev X 93 81 [.ref x, v1] st G = mc_ev X 93 82 [.ref x, v1] (.ref x :: st) G) ∧
  (∀ (r : Nat) (ls st : List Value) (G : mc_H), mc_ev X 93 82 ls (.ref r :: st) G = (mc_getf G r 7 0).bind (fun v => mc_ev X 93 85 ls (v :: st) G)) ∧
  (∀ (r : Nat) (ls st : List Value) (G : mc_H), mc_ev X 93 85 ls (.ref r :: st) G = (mc_getf G r 4 0).bind (fun v => mc_ev X 93 88 ls (v :: st) G)) ∧
  (∀ (r : Nat) (ls st : List Value) (G : mc_H), mc_ev X 93 88 ls (.ref r :: st) G = (mc_getf G r 0 3).bind (fun v => mc_ev X 93 91 ls (v :: st) G)) ∧
  (∀ (v : Int32) (ls : List Value) (G : mc_H), mc_ev X 93 91 ls [.int v] G = some (some (.int v), G)) ∧
  (∀ (v1 : Value) (x : Nat) (st : List Value) (G : mc_H), mc_ev X 93 92 [.ref x, v1] st G = mc_ev X 93 93 [.ref x, v1] (.ref x :: st) G) ∧
  (∀ (r : Nat) (ls st : List Value) (G : mc_H), mc_ev X 93 93 ls (.ref r :: st) G = (mc_getf G r 7 0).bind (fun v => mc_ev X 93 96 ls (v :: st) G)) ∧
  (∀ (r : Nat) (ls st : List Value) (G : mc_H), mc_ev X 93 96 ls (.ref r :: st) G = (mc_getf G r 4 0).bind (fun v => mc_ev X 93 99 ls (v :: st) G)) ∧
  (∀ (r : Nat) (ls st : List Value) (G : mc_H), mc_ev X 93 99 ls (.ref r :: st) G = (mc_getf G r 0 4).bind (fun v => mc_ev X 93 102 ls (v :: st) G)) ∧
  (∀ (v : Int32) (ls : List Value) (G : mc_H), mc_ev X 93 102 ls [.int v] G = some (some (.int v), G)) ∧
  (∀ (v1 : Value) (x : Nat) (st : List Value) (G : mc_H), mc_ev X 93 103 [.ref x, v1] st G = mc_ev X 93 104 [.ref x, v1] (.ref x :: st) G) ∧
  (∀ (r : Nat) (ls st : List Value) (G : mc_H), mc_ev X 93 104 ls (.ref r :: st) G = (mc_getf G r 7 0).bind (fun v => mc_ev X 93 107 ls (v :: st) G)) ∧
  (∀ (r : Nat) (ls st : List Value) (G : mc_H), st.length ≤ 4 → mc_cls G r = some 4 → mc_ev X 93 107 ls (.ref r :: st) G = (mc_ev X 32 0 [.ref r, .null, .null] [] G).bind (fun q => mc_ev X 93 110 ls (q.1.toList ++ st) q.2)) ∧
  (∀ (a0 : Int32) (ls st : List Value) (G : mc_H), st.length ≤ 4 → mc_ev X 93 110 ls (.int a0 :: st) G = (mc_ev X 175 0 [.int a0] [] G).bind (fun q => mc_ev X 93 113 ls (q.1.toList ++ st) q.2)) ∧
  (∀ (v : Int32) (ls : List Value) (G : mc_H), mc_ev X 93 113 ls [.int v] G = some (some (.int v), G)) ∧
  (∀ (v1 : Value) (x : Nat) (st : List Value) (G : mc_H), mc_ev X 93 114 [.ref x, v1] st G = mc_ev X 93 115 [.ref x, v1] (.ref x :: st) G) ∧
  (∀ (r : Nat) (ls st : List Value) (G : mc_H), mc_ev X 93 115 ls (.ref r :: st) G = (mc_getf G r 7 0).bind (fun v => mc_ev X 93 118 ls (v :: st) G)) ∧
  (∀ (r : Nat) (ls st : List Value) (G : mc_H), st.length ≤ 4 → mc_cls G r = some 4 → mc_ev X 93 118 ls (.ref r :: st) G = (mc_ev X 44 0 [.ref r, .null, .null] [] G).bind (fun q => mc_ev X 93 121 ls (q.1.toList ++ st) q.2)) ∧
  (∀ (a0 : Int32) (ls st : List Value) (G : mc_H), st.length ≤ 4 → mc_ev X 93 121 ls (.int a0 :: st) G = (mc_ev X 175 0 [.int a0] [] G).bind (fun q => mc_ev X 93 124 ls (q.1.toList ++ st) q.2)) ∧
  (∀ (v : Int32) (ls : List Value) (G : mc_H), mc_ev X 93 124 ls [.int v] G = some (some (.int v), G)) ∧
  (∀ (v1 : Value) (x : Nat) (st : List Value) (G : mc_H), mc_ev X 93 125 [.ref x, v1] st G = mc_ev X 93 126 [.ref x, v1] (.ref x :: st) G) ∧
  (∀ (r : Nat) (ls st : List Value) (G : mc_H), mc_ev X 93 126 ls (.ref r :: st) G = (mc_getf G r 7 1).bind (fun v => mc_ev X 93 129 ls (v :: st) G)) ∧
  (∀ (r : Nat) (ls st : List Value) (G : mc_H), mc_ev X 93 129 ls (.ref r :: st) G = (mc_getf G r 1 2).bind (fun v => mc_ev X 93 132 ls (v :: st) G)) ∧
  (∀ (v : Int32) (ls : List Value) (G : mc_H), mc_ev X 93 132 ls [.int v] G = some (some (.int v), G)) ∧
  (∀ (ls st : List Value) (G : mc_H), mc_ev X 93 133 ls st G = mc_ev X 93 134 ls (.int (-1) :: st) G) ∧
  (∀ (v : Int32) (ls : List Value) (G : mc_H), mc_ev X 93 134 ls [.int v] G = some (some (.int v), G)) := ⟨fun v0 x st G => ev_iload_n rfl rfl,
  fun ls st G => ev_tabIn rfl (by decide) rfl (by decide) rfl,
  fun ls st G => ev_tabIn rfl (by decide) rfl (by decide) rfl,
  fun ls st G => ev_tabIn rfl (by decide) rfl (by decide) rfl,
  fun ls st G => ev_tabIn rfl (by decide) rfl (by decide) rfl,
  fun ls st G => ev_tabIn rfl (by decide) rfl (by decide) rfl,
  fun ls st G => ev_tabIn rfl (by decide) rfl (by decide) rfl,
  fun ls st G => ev_tabIn rfl (by decide) rfl (by decide) rfl,
  fun ls st G => ev_tabIn rfl (by decide) rfl (by decide) rfl,
  fun x ls st G hx => ev_tabOut rfl rfl hx,
  fun v1 x st G => ev_aload_n rfl rfl,
  fun r ls st G => ev_getfield rfl,
  fun r ls st G => ev_getfield rfl,
  fun r ls st G => ev_getfield rfl,
  fun v ls G => ev_ireturn rfl rfl,
  fun v1 x st G => ev_aload_n rfl rfl,
  fun r ls st G => ev_getfield rfl,
  fun r ls st G => ev_getfield rfl,
  fun r ls st G => ev_getfield rfl,
  fun v ls G => ev_ireturn rfl rfl,
  fun v1 x st G => ev_aload_n rfl rfl,
  fun r ls st G => ev_getfield rfl,
  fun r ls st G => ev_getfield rfl,
  fun r ls st G => ev_getfield rfl,
  fun v ls G => ev_ireturn rfl rfl,
  fun v1 x st G => ev_aload_n rfl rfl,
  fun r ls st G => ev_getfield rfl,
  fun r ls st G => ev_getfield rfl,
  fun r ls st G => ev_getfield rfl,
  fun v ls G => ev_ireturn rfl rfl,
  fun v1 x st G => ev_aload_n rfl rfl,
  fun r ls st G => ev_getfield rfl,
  fun r ls st G => ev_getfield rfl,
  fun r ls st G => ev_getfield rfl,
  fun v ls G => ev_ireturn rfl rfl,
  fun v1 x st G => ev_aload_n rfl rfl,
  fun r ls st G => ev_getfield rfl,
  fun r ls st G hr hG => ev_virt (As := []) rfl rfl rfl rfl rfl rfl hr hG,
  fun a0 ls st G hr => ev_stat (As := [.int a0]) rfl (by decide) rfl rfl rfl rfl hr,
  fun v ls G => ev_ireturn rfl rfl,
  fun v1 x st G => ev_aload_n rfl rfl,
  fun r ls st G => ev_getfield rfl,
  fun r ls st G hr hG => ev_virt (As := []) rfl rfl rfl rfl rfl rfl hr hG,
  fun a0 ls st G hr => ev_stat (As := [.int a0]) rfl (by decide) rfl rfl rfl rfl hr,
  fun v ls G => ev_ireturn rfl rfl,
  fun v1 x st G => ev_aload_n rfl rfl,
  fun r ls st G => ev_getfield rfl,
  fun r ls st G => ev_getfield rfl,
  fun v ls G => ev_ireturn rfl rfl,
  fun ls st G => ev_iconst rfl rfl,
  fun v ls G => ev_ireturn rfl rfl⟩
theorem e_94 {X : mc_X} : (∀ (x : Nat) (st : List Value) (G : mc_H), mc_ev X 94 0 [.ref x] st G = mc_ev X 94 1 [.ref x] (.ref x :: st) G) ∧
  (∀ (r : Nat) (ls st : List Value) (G : mc_H), mc_ev X 94 1 ls (.ref r :: st) G = (mc_getf G r 7 5).bind (fun v => mc_ev X 94 4 ls (v :: st) G)) ∧
  (∀ (v : Int64) (ls : List Value) (G : mc_H), mc_ev X 94 4 ls [.long v] G = some (some (.long v), G)) := ⟨fun  x st G => ev_aload_n rfl rfl,
  fun r ls st G => ev_getfield rfl,
  fun v ls G => ev_lreturn rfl rfl⟩
theorem e_95 {X : mc_X} : (∀ (x : Nat) (st : List Value) (G : mc_H), mc_ev X 95 0 [.ref x] st G = mc_ev X 95 1 [.ref x] (.ref x :: st) G) ∧
  (∀ (r : Nat) (ls st : List Value) (G : mc_H), mc_ev X 95 1 ls (.ref r :: st) G = (mc_getf G r 7 6).bind (fun v => mc_ev X 95 4 ls (v :: st) G)) ∧
  (∀ (v : Int32) (ls : List Value) (G : mc_H), mc_ev X 95 4 ls [.int v] G = some (some (.int v), G)) := ⟨fun  x st G => ev_aload_n rfl rfl,
  fun r ls st G => ev_getfield rfl,
  fun v ls G => ev_ireturn rfl rfl⟩
theorem e_96 {X : mc_X} : (∀ (v0 : Value) (x : Int32) (st : List Value) (G : mc_H), mc_ev X 96 0 [v0, .int x] st G = mc_ev X 96 1 [v0, .int x] (.int x :: st) G) ∧
  (∀ (x : Int32) (ls st : List Value) (G : mc_H), mc_ev X 96 1 ls (.int x :: st) G = if x < 0 then mc_ev X 96 18 ls st G else mc_ev X 96 4 ls st G) ∧
  (∀ (v0 : Value) (x : Int32) (st : List Value) (G : mc_H), mc_ev X 96 4 [v0, .int x] st G = mc_ev X 96 5 [v0, .int x] (.int x :: st) G) ∧
  (∀ (v1 : Value) (x : Nat) (st : List Value) (G : mc_H), mc_ev X 96 5 [.ref x, v1] st G = mc_ev X 96 6 [.ref x, v1] (.ref x :: st) G) ∧
  (∀ (r : Nat) (ls st : List Value) (G : mc_H), mc_ev X 96 6 ls (.ref r :: st) G = (mc_getf G r 7 0).bind (fun v => mc_ev X 96 9 ls (v :: st) G)) ∧
  (∀ (r : Nat) (ls st : List Value) (G : mc_H), mc_ev X 96 9 ls (.ref r :: st) G = (mc_getf G r 4 0).bind (fun v => mc_ev X 96 12 ls (v :: st) G)) ∧
  (∀ (r : Nat) (ls st : List Value) (G : mc_H), mc_ev X 96 12 ls (.ref r :: st) G = (mc_getf G r 0 2).bind (fun v => mc_ev X 96 15 ls (v :: st) G)) ∧
  (∀ (x y : Int32) (ls st : List Value) (G : mc_H), mc_ev X 96 15 ls (.int y :: .int x :: st) G = if x < y then mc_ev X 96 22 ls st G else mc_ev X 96 18 ls st G) ∧
  (∀ (ls st : List Value) (G : mc_H), mc_ev X 96 18 ls st G = mc_ev X 96 19 ls (.int 1 :: st) G) ∧
  (∀ (ls st : List Value) (G : mc_H), mc_ev X 96 19 ls st G = mc_ev X 96 23 ls st G) ∧
  (∀ (ls st : List Value) (G : mc_H), mc_ev X 96 22 ls st G = mc_ev X 96 23 ls (.int 0 :: st) G) ∧
  (∀ (v : Int32) (ls : List Value) (G : mc_H), (v = 0 ∨ v = 1) → mc_ev X 96 23 ls [.int v] G = some (some (.int v), G)) := ⟨fun v0 x st G => ev_iload_n rfl rfl,
  fun x ls st G => ev_br rfl rfl,
  fun v0 x st G => ev_iload_n rfl rfl,
  fun v1 x st G => ev_aload_n rfl rfl,
  fun r ls st G => ev_getfield rfl,
  fun r ls st G => ev_getfield rfl,
  fun r ls st G => ev_getfield rfl,
  fun x y ls st G => ev_br rfl rfl,
  fun ls st G => ev_iconst rfl rfl,
  fun ls st G => ev_goto rfl rfl,
  fun ls st G => ev_iconst rfl rfl,
  fun v ls G hv => ev_zreturn rfl rfl hv⟩
theorem e_97 {X : mc_X} : (∀ (v0 : Value) (x : Int32) (st : List Value) (G : mc_H), mc_ev X 97 0 [v0, .int x] st G = mc_ev X 97 1 [v0, .int x] (.int x :: st) G) ∧
  (∀ (x : Int32) (ls st : List Value) (G : mc_H), mc_ev X 97 1 ls (.int x :: st) G = if x < 0 then mc_ev X 97 18 ls st G else mc_ev X 97 4 ls st G) ∧
  (∀ (v0 : Value) (x : Int32) (st : List Value) (G : mc_H), mc_ev X 97 4 [v0, .int x] st G = mc_ev X 97 5 [v0, .int x] (.int x :: st) G) ∧
  (∀ (v1 : Value) (x : Nat) (st : List Value) (G : mc_H), mc_ev X 97 5 [.ref x, v1] st G = mc_ev X 97 6 [.ref x, v1] (.ref x :: st) G) ∧
  (∀ (r : Nat) (ls st : List Value) (G : mc_H), mc_ev X 97 6 ls (.ref r :: st) G = (mc_getf G r 7 0).bind (fun v => mc_ev X 97 9 ls (v :: st) G)) ∧
  (∀ (r : Nat) (ls st : List Value) (G : mc_H), mc_ev X 97 9 ls (.ref r :: st) G = (mc_getf G r 4 0).bind (fun v => mc_ev X 97 12 ls (v :: st) G)) ∧
  (∀ (r : Nat) (ls st : List Value) (G : mc_H), mc_ev X 97 12 ls (.ref r :: st) G = (mc_getf G r 0 3).bind (fun v => mc_ev X 97 15 ls (v :: st) G)) ∧
  (∀ (x y : Int32) (ls st : List Value) (G : mc_H), mc_ev X 97 15 ls (.int y :: .int x :: st) G = if x < y then mc_ev X 97 22 ls st G else mc_ev X 97 18 ls st G) ∧
  (∀ (ls st : List Value) (G : mc_H), mc_ev X 97 18 ls st G = mc_ev X 97 19 ls (.int 1 :: st) G) ∧
  (∀ (ls st : List Value) (G : mc_H), mc_ev X 97 19 ls st G = mc_ev X 97 23 ls st G) ∧
  (∀ (ls st : List Value) (G : mc_H), mc_ev X 97 22 ls st G = mc_ev X 97 23 ls (.int 0 :: st) G) ∧
  (∀ (v : Int32) (ls : List Value) (G : mc_H), (v = 0 ∨ v = 1) → mc_ev X 97 23 ls [.int v] G = some (some (.int v), G)) := ⟨fun v0 x st G => ev_iload_n rfl rfl,
  fun x ls st G => ev_br rfl rfl,
  fun v0 x st G => ev_iload_n rfl rfl,
  fun v1 x st G => ev_aload_n rfl rfl,
  fun r ls st G => ev_getfield rfl,
  fun r ls st G => ev_getfield rfl,
  fun r ls st G => ev_getfield rfl,
  fun x y ls st G => ev_br rfl rfl,
  fun ls st G => ev_iconst rfl rfl,
  fun ls st G => ev_goto rfl rfl,
  fun ls st G => ev_iconst rfl rfl,
  fun v ls G hv => ev_zreturn rfl rfl hv⟩
theorem e_98 {X : mc_X} : (∀ (v0 : Value) (x : Int32) (st : List Value) (G : mc_H), mc_ev X 98 0 [v0, .int x] st G = mc_ev X 98 1 [v0, .int x] (.int x :: st) G) ∧
  (∀ (x : Int32) (ls st : List Value) (G : mc_H), mc_ev X 98 1 ls (.int x :: st) G = if x < 0 then mc_ev X 98 18 ls st G else mc_ev X 98 4 ls st G) ∧
  (∀ (v0 : Value) (x : Int32) (st : List Value) (G : mc_H), mc_ev X 98 4 [v0, .int x] st G = mc_ev X 98 5 [v0, .int x] (.int x :: st) G) ∧
  (∀ (v1 : Value) (x : Nat) (st : List Value) (G : mc_H), mc_ev X 98 5 [.ref x, v1] st G = mc_ev X 98 6 [.ref x, v1] (.ref x :: st) G) ∧
  (∀ (r : Nat) (ls st : List Value) (G : mc_H), mc_ev X 98 6 ls (.ref r :: st) G = (mc_getf G r 7 0).bind (fun v => mc_ev X 98 9 ls (v :: st) G)) ∧
  (∀ (r : Nat) (ls st : List Value) (G : mc_H), mc_ev X 98 9 ls (.ref r :: st) G = (mc_getf G r 4 0).bind (fun v => mc_ev X 98 12 ls (v :: st) G)) ∧
  (∀ (r : Nat) (ls st : List Value) (G : mc_H), mc_ev X 98 12 ls (.ref r :: st) G = (mc_getf G r 0 4).bind (fun v => mc_ev X 98 15 ls (v :: st) G)) ∧
  (∀ (x y : Int32) (ls st : List Value) (G : mc_H), mc_ev X 98 15 ls (.int y :: .int x :: st) G = if x < y then mc_ev X 98 22 ls st G else mc_ev X 98 18 ls st G) ∧
  (∀ (ls st : List Value) (G : mc_H), mc_ev X 98 18 ls st G = mc_ev X 98 19 ls (.int 1 :: st) G) ∧
  (∀ (ls st : List Value) (G : mc_H), mc_ev X 98 19 ls st G = mc_ev X 98 23 ls st G) ∧
  (∀ (ls st : List Value) (G : mc_H), mc_ev X 98 22 ls st G = mc_ev X 98 23 ls (.int 0 :: st) G) ∧
  (∀ (v : Int32) (ls : List Value) (G : mc_H), (v = 0 ∨ v = 1) → mc_ev X 98 23 ls [.int v] G = some (some (.int v), G)) := ⟨fun v0 x st G => ev_iload_n rfl rfl,
  fun x ls st G => ev_br rfl rfl,
  fun v0 x st G => ev_iload_n rfl rfl,
  fun v1 x st G => ev_aload_n rfl rfl,
  fun r ls st G => ev_getfield rfl,
  fun r ls st G => ev_getfield rfl,
  fun r ls st G => ev_getfield rfl,
  fun x y ls st G => ev_br rfl rfl,
  fun ls st G => ev_iconst rfl rfl,
  fun ls st G => ev_goto rfl rfl,
  fun ls st G => ev_iconst rfl rfl,
  fun v ls G hv => ev_zreturn rfl rfl hv⟩
theorem e_99 {X : mc_X} : (∀ (v0 : Value) (x : Int32) (st : List Value) (G : mc_H), mc_ev X 99 0 [v0, .int x] st G = mc_ev X 99 1 [v0, .int x] (.int x :: st) G) ∧
  (∀ (x : Int32) (ls st : List Value) (G : mc_H), mc_ev X 99 1 ls (.int x :: st) G = if x < 0 then mc_ev X 99 15 ls st G else mc_ev X 99 4 ls st G) ∧
  (∀ (v0 : Value) (x : Int32) (st : List Value) (G : mc_H), mc_ev X 99 4 [v0, .int x] st G = mc_ev X 99 5 [v0, .int x] (.int x :: st) G) ∧
  (∀ (v1 : Value) (x : Nat) (st : List Value) (G : mc_H), mc_ev X 99 5 [.ref x, v1] st G = mc_ev X 99 6 [.ref x, v1] (.ref x :: st) G) ∧
  (∀ (r : Nat) (ls st : List Value) (G : mc_H), mc_ev X 99 6 ls (.ref r :: st) G = (mc_getf G r 7 0).bind (fun v => mc_ev X 99 9 ls (v :: st) G)) ∧
  (∀ (r : Nat) (ls st : List Value) (G : mc_H), st.length ≤ 4 → mc_cls G r = some 4 → mc_ev X 99 9 ls (.ref r :: st) G = (mc_ev X 27 0 [.ref r] [] G).bind (fun q => mc_ev X 99 12 ls (q.1.toList ++ st) q.2)) ∧
  (∀ (x y : Int32) (ls st : List Value) (G : mc_H), mc_ev X 99 12 ls (.int y :: .int x :: st) G = if x < y then mc_ev X 99 19 ls st G else mc_ev X 99 15 ls st G) ∧
  (∀ (ls st : List Value) (G : mc_H), mc_ev X 99 15 ls st G = mc_ev X 99 16 ls (.int 1 :: st) G) ∧
  (∀ (ls st : List Value) (G : mc_H), mc_ev X 99 16 ls st G = mc_ev X 99 20 ls st G) ∧
  (∀ (ls st : List Value) (G : mc_H), mc_ev X 99 19 ls st G = mc_ev X 99 20 ls (.int 0 :: st) G) ∧
  (∀ (v : Int32) (ls : List Value) (G : mc_H), (v = 0 ∨ v = 1) → mc_ev X 99 20 ls [.int v] G = some (some (.int v), G)) := ⟨fun v0 x st G => ev_iload_n rfl rfl,
  fun x ls st G => ev_br rfl rfl,
  fun v0 x st G => ev_iload_n rfl rfl,
  fun v1 x st G => ev_aload_n rfl rfl,
  fun r ls st G => ev_getfield rfl,
  fun r ls st G hr hG => ev_virt (As := []) rfl rfl rfl rfl rfl rfl hr hG,
  fun x y ls st G => ev_br rfl rfl,
  fun ls st G => ev_iconst rfl rfl,
  fun ls st G => ev_goto rfl rfl,
  fun ls st G => ev_iconst rfl rfl,
  fun v ls G hv => ev_zreturn rfl rfl hv⟩
theorem e_100 {X : mc_X} : (∀ (x : Int32) (st : List Value) (G : mc_H), mc_ev X 100 0 [.int x] st G = mc_ev X 100 1 [.int x] (.int x :: st) G) ∧
  (∀ (ls st : List Value) (G : mc_H), mc_ev X 100 1 ls st G = mc_ev X 100 4 ls (.int (-1000) :: st) G) ∧
  (∀ (x y : Int32) (ls st : List Value) (G : mc_H), mc_ev X 100 4 ls (.int y :: .int x :: st) G = if x < y then mc_ev X 100 14 ls st G else mc_ev X 100 7 ls st G) ∧
  (∀ (x : Int32) (st : List Value) (G : mc_H), mc_ev X 100 7 [.int x] st G = mc_ev X 100 8 [.int x] (.int x :: st) G) ∧
  (∀ (ls st : List Value) (G : mc_H), mc_ev X 100 8 ls st G = mc_ev X 100 11 ls (.int 1000 :: st) G) ∧
  (∀ (x y : Int32) (ls st : List Value) (G : mc_H), mc_ev X 100 11 ls (.int y :: .int x :: st) G = if y < x then mc_ev X 100 14 ls st G else mc_ev X 100 18 ls st G) ∧
  (∀ (ls st : List Value) (G : mc_H), mc_ev X 100 14 ls st G = mc_ev X 100 15 ls (.int 1 :: st) G) ∧
  (∀ (ls st : List Value) (G : mc_H), mc_ev X 100 15 ls st G = mc_ev X 100 19 ls st G) ∧
  (∀ (ls st : List Value) (G : mc_H), mc_ev X 100 18 ls st G = mc_ev X 100 19 ls (.int 0 :: st) G) ∧
  (∀ (v : Int32) (ls : List Value) (G : mc_H), (v = 0 ∨ v = 1) → mc_ev X 100 19 ls [.int v] G = some (some (.int v), G)) := ⟨fun  x st G => ev_iload_n rfl rfl,
  fun ls st G => ev_sipush rfl rfl,
  fun x y ls st G => ev_br rfl rfl,
  fun  x st G => ev_iload_n rfl rfl,
  fun ls st G => ev_sipush rfl rfl,
  fun x y ls st G => ev_br rfl rfl,
  fun ls st G => ev_iconst rfl rfl,
  fun ls st G => ev_goto rfl rfl,
  fun ls st G => ev_iconst rfl rfl,
  fun v ls G hv => ev_zreturn rfl rfl hv⟩
theorem e_101 {X : mc_X} : (∀ (x : Int32) (st : List Value) (G : mc_H), mc_ev X 101 0 [.int x] st G = mc_ev X 101 1 [.int x] (.int x :: st) G) ∧
  (∀ (x : Int32) (ls st : List Value) (G : mc_H), mc_ev X 101 1 ls (.int x :: st) G = if x < 0 then mc_ev X 101 9 ls st G else mc_ev X 101 4 ls st G) ∧
  (∀ (x : Int32) (st : List Value) (G : mc_H), mc_ev X 101 4 [.int x] st G = mc_ev X 101 5 [.int x] (.int x :: st) G) ∧
  (∀ (ls st : List Value) (G : mc_H), mc_ev X 101 5 ls st G = mc_ev X 101 6 ls (.int 4 :: st) G) ∧
  (∀ (x y : Int32) (ls st : List Value) (G : mc_H), mc_ev X 101 6 ls (.int y :: .int x :: st) G = if x < y then mc_ev X 101 13 ls st G else mc_ev X 101 9 ls st G) ∧
  (∀ (ls st : List Value) (G : mc_H), mc_ev X 101 9 ls st G = mc_ev X 101 10 ls (.int 1 :: st) G) ∧
  (∀ (ls st : List Value) (G : mc_H), mc_ev X 101 10 ls st G = mc_ev X 101 14 ls st G) ∧
  (∀ (ls st : List Value) (G : mc_H), mc_ev X 101 13 ls st G = mc_ev X 101 14 ls (.int 0 :: st) G) ∧
  (∀ (v : Int32) (ls : List Value) (G : mc_H), (v = 0 ∨ v = 1) → mc_ev X 101 14 ls [.int v] G = some (some (.int v), G)) := ⟨fun  x st G => ev_iload_n rfl rfl,
  fun x ls st G => ev_br rfl rfl,
  fun  x st G => ev_iload_n rfl rfl,
  fun ls st G => ev_iconst rfl rfl,
  fun x y ls st G => ev_br rfl rfl,
  fun ls st G => ev_iconst rfl rfl,
  fun ls st G => ev_goto rfl rfl,
  fun ls st G => ev_iconst rfl rfl,
  fun v ls G hv => ev_zreturn rfl rfl hv⟩
theorem e_102 {X : mc_X} : (∀ (x : Int32) (st : List Value) (G : mc_H), mc_ev X 102 0 [.int x] st G = mc_ev X 102 1 [.int x] (.int x :: st) G) ∧
  (∀ (x : Int32) (ls st : List Value) (G : mc_H), mc_ev X 102 1 ls (.int x :: st) G = if x < 0 then mc_ev X 102 9 ls st G else mc_ev X 102 4 ls st G) ∧
  (∀ (x : Int32) (st : List Value) (G : mc_H), mc_ev X 102 4 [.int x] st G = mc_ev X 102 5 [.int x] (.int x :: st) G) ∧
  (∀ (ls st : List Value) (G : mc_H), mc_ev X 102 5 ls st G = mc_ev X 102 6 ls (.int 3 :: st) G) ∧
  (∀ (x y : Int32) (ls st : List Value) (G : mc_H), mc_ev X 102 6 ls (.int y :: .int x :: st) G = if x < y then mc_ev X 102 13 ls st G else mc_ev X 102 9 ls st G) ∧
  (∀ (ls st : List Value) (G : mc_H), mc_ev X 102 9 ls st G = mc_ev X 102 10 ls (.int 1 :: st) G) ∧
  (∀ (ls st : List Value) (G : mc_H), mc_ev X 102 10 ls st G = mc_ev X 102 14 ls st G) ∧
  (∀ (ls st : List Value) (G : mc_H), mc_ev X 102 13 ls st G = mc_ev X 102 14 ls (.int 0 :: st) G) ∧
  (∀ (v : Int32) (ls : List Value) (G : mc_H), (v = 0 ∨ v = 1) → mc_ev X 102 14 ls [.int v] G = some (some (.int v), G)) := ⟨fun  x st G => ev_iload_n rfl rfl,
  fun x ls st G => ev_br rfl rfl,
  fun  x st G => ev_iload_n rfl rfl,
  fun ls st G => ev_iconst rfl rfl,
  fun x y ls st G => ev_br rfl rfl,
  fun ls st G => ev_iconst rfl rfl,
  fun ls st G => ev_goto rfl rfl,
  fun ls st G => ev_iconst rfl rfl,
  fun v ls G hv => ev_zreturn rfl rfl hv⟩
theorem e_103 {X : mc_X} : (∀ (x : Int32) (st : List Value) (G : mc_H), mc_ev X 103 0 [.int x] st G = mc_ev X 103 1 [.int x] (.int x :: st) G) ∧
  (∀ (x : Int32) (ls st : List Value) (G : mc_H), mc_ev X 103 1 ls (.int x :: st) G = if x = 0 then mc_ev X 103 8 ls st G else mc_ev X 103 4 ls st G) ∧
  (∀ (ls st : List Value) (G : mc_H), mc_ev X 103 4 ls st G = mc_ev X 103 5 ls (.int 1 :: st) G) ∧
  (∀ (ls st : List Value) (G : mc_H), mc_ev X 103 5 ls st G = mc_ev X 103 9 ls st G) ∧
  (∀ (ls st : List Value) (G : mc_H), mc_ev X 103 8 ls st G = mc_ev X 103 9 ls (.int 0 :: st) G) ∧
  (∀ (v : Int32) (ls : List Value) (G : mc_H), mc_ev X 103 9 ls [.int v] G = some (some (.int v), G)) := ⟨fun  x st G => ev_iload_n rfl rfl,
  fun x ls st G => ev_br rfl rfl,
  fun ls st G => ev_iconst rfl rfl,
  fun ls st G => ev_goto rfl rfl,
  fun ls st G => ev_iconst rfl rfl,
  fun v ls G => ev_ireturn rfl rfl⟩
theorem e_104 {X : mc_X} : (∀ (v1 : Value) (x : Nat) (st : List Value) (G : mc_H), mc_ev X 104 0 [.ref x, v1] st G = mc_ev X 104 1 [.ref x, v1] (.ref x :: st) G) ∧
  (∀ (v0 : Value) (x : Int32) (st : List Value) (G : mc_H), mc_ev X 104 1 [v0, .int x] st G = mc_ev X 104 2 [v0, .int x] (.int x :: st) G) ∧
  (∀ (v : Value) (r : Nat) (ls st : List Value) (G : mc_H), mc_ev X 104 2 ls (v :: .ref r :: st) G = (mc_setf G r 7 6 v).bind (fun G' => mc_ev X 104 5 ls st G')) ∧
  (∀ (v0 : Value) (x : Int32) (st : List Value) (G : mc_H), mc_ev X 104 5 [v0, .int x] st G = mc_ev X 104 6 [v0, .int x] (.int x :: st) G) ∧
  (∀ (v : Int32) (ls : List Value) (G : mc_H), mc_ev X 104 6 ls [.int v] G = some (some (.int v), G)) := ⟨fun v1 x st G => ev_aload_n rfl rfl,
  fun v0 x st G => ev_iload_n rfl rfl,
  fun v r ls st G => ev_putfield rfl,
  fun v0 x st G => ev_iload_n rfl rfl,
  fun v ls G => ev_ireturn rfl rfl⟩
theorem e_105 {X : mc_X} : (∀ (v1 : Value) (x : Nat) (st : List Value) (G : mc_H), mc_ev X 105 0 [.ref x, v1] st G = mc_ev X 105 1 [.ref x, v1] (.ref x :: st) G) ∧
  (∀ (ls st : List Value) (G : mc_H), mc_ev X 105 1 ls st G = mc_ev X 105 2 ls (.int 0 :: st) G) ∧
  (∀ (v : Value) (r : Nat) (ls st : List Value) (G : mc_H), mc_ev X 105 2 ls (v :: .ref r :: st) G = (mc_setf G r 7 6 v).bind (fun G' => mc_ev X 105 5 ls st G')) ∧
  (∀ (v0 : Value) (x : Int32) (st : List Value) (G : mc_H), mc_ev X 105 5 [v0, .int x] st G = mc_ev X 105 6 [v0, .int x] (.int x :: st) G) ∧
  (∀ (v : Int32) (ls : List Value) (G : mc_H), mc_ev X 105 6 ls [.int v] G = some (some (.int v), G)) := ⟨fun v1 x st G => ev_aload_n rfl rfl,
  fun ls st G => ev_iconst rfl rfl,
  fun v r ls st G => ev_putfield rfl,
  fun v0 x st G => ev_iload_n rfl rfl,
  fun v ls G => ev_ireturn rfl rfl⟩
theorem e_106 {X : mc_X} : (∀ (v0 v2 v3 v4 : Value) (x : Int32) (st : List Value) (G : mc_H), mc_ev X 106 0 [v0, .int x, v2, v3, v4] st G = mc_ev X 106 1 [v0, .int x, v2, v3, v4] (.int x :: st) G) ∧
  (∀ (a0 : Int32) (ls st : List Value) (G : mc_H), st.length ≤ 4 → mc_ev X 106 1 ls (.int a0 :: st) G = (mc_ev X 101 0 [.int a0] [] G).bind (fun q => mc_ev X 106 4 ls (q.1.toList ++ st) q.2)) ∧
  (∀ (x : Int32) (ls st : List Value) (G : mc_H), mc_ev X 106 4 ls (.int x :: st) G = if x = 0 then mc_ev X 106 7 ls st G else mc_ev X 106 14 ls st G) ∧
  (∀ (v0 v1 v3 v4 : Value) (x : Int32) (st : List Value) (G : mc_H), mc_ev X 106 7 [v0, v1, .int x, v3, v4] st G = mc_ev X 106 8 [v0, v1, .int x, v3, v4] (.int x :: st) G) ∧
  (∀ (a0 : Int32) (ls st : List Value) (G : mc_H), st.length ≤ 4 → mc_ev X 106 8 ls (.int a0 :: st) G = (mc_ev X 102 0 [.int a0] [] G).bind (fun q => mc_ev X 106 11 ls (q.1.toList ++ st) q.2)) ∧
  (∀ (x : Int32) (ls st : List Value) (G : mc_H), mc_ev X 106 11 ls (.int x :: st) G = if x = 0 then mc_ev X 106 16 ls st G else mc_ev X 106 14 ls st G) ∧
  (∀ (ls st : List Value) (G : mc_H), mc_ev X 106 14 ls st G = mc_ev X 106 15 ls (.int (-1) :: st) G) ∧
  (∀ (v : Int32) (ls : List Value) (G : mc_H), mc_ev X 106 15 ls [.int v] G = some (some (.int v), G)) ∧
  (∀ (v1 v2 v3 v4 : Value) (x : Nat) (st : List Value) (G : mc_H), mc_ev X 106 16 [.ref x, v1, v2, v3, v4] st G = mc_ev X 106 17 [.ref x, v1, v2, v3, v4] (.ref x :: st) G) ∧
  (∀ (r : Nat) (ls st : List Value) (G : mc_H), mc_ev X 106 17 ls (.ref r :: st) G = (mc_getf G r 7 4).bind (fun v => mc_ev X 106 20 ls (v :: st) G)) ∧
  (∀ (v0 v2 v3 v4 : Value) (x : Int32) (st : List Value) (G : mc_H), mc_ev X 106 20 [v0, .int x, v2, v3, v4] st G = mc_ev X 106 21 [v0, .int x, v2, v3, v4] (.int x :: st) G) ∧
  (∀ (i : Int32) (r : Nat) (ls st : List Value) (G : mc_H), mc_ev X 106 21 ls (.int i :: .ref r :: st) G = (mc_getQ G r i).bind (fun x => mc_ev X 106 22 ls (.ref x :: st) G)) ∧
  (∀ (r : Nat) (ls st : List Value) (G : mc_H), st.length ≤ 4 → mc_cls G r = some 6 → mc_ev X 106 22 ls (.ref r :: st) G = (mc_ev X 49 0 [.ref r] [] G).bind (fun q => mc_ev X 106 25 ls (q.1.toList ++ st) q.2)) ∧
  (∀ (x : Int32) (ls st : List Value) (G : mc_H), mc_ev X 106 25 ls (.int x :: st) G = if x = 0 then mc_ev X 106 31 ls st G else mc_ev X 106 28 ls st G) ∧
  (∀ (ls st : List Value) (G : mc_H), mc_ev X 106 28 ls st G = mc_ev X 106 30 ls (.int (-11) :: st) G) ∧
  (∀ (v : Int32) (ls : List Value) (G : mc_H), mc_ev X 106 30 ls [.int v] G = some (some (.int v), G)) ∧
  (∀ (v1 v2 v3 v4 : Value) (x : Nat) (st : List Value) (G : mc_H), mc_ev X 106 31 [.ref x, v1, v2, v3, v4] st G = mc_ev X 106 32 [.ref x, v1, v2, v3, v4] (.ref x :: st) G) ∧
  (∀ (r : Nat) (ls st : List Value) (G : mc_H), mc_ev X 106 32 ls (.ref r :: st) G = (mc_getf G r 7 4).bind (fun v => mc_ev X 106 35 ls (v :: st) G)) ∧
  (∀ (v0 v2 v3 v4 : Value) (x : Int32) (st : List Value) (G : mc_H), mc_ev X 106 35 [v0, .int x, v2, v3, v4] st G = mc_ev X 106 36 [v0, .int x, v2, v3, v4] (.int x :: st) G) ∧
  (∀ (i : Int32) (r : Nat) (ls st : List Value) (G : mc_H), mc_ev X 106 36 ls (.int i :: .ref r :: st) G = (mc_getQ G r i).bind (fun x => mc_ev X 106 37 ls (.ref x :: st) G)) ∧
  (∀ (r : Nat) (ls st : List Value) (G : mc_H), mc_ev X 106 37 ls (.ref r :: st) G = (mc_getf G r 6 0).bind (fun v => mc_ev X 106 40 ls (v :: st) G)) ∧
  (∀ (v0 v1 v3 v4 : Value) (x : Int32) (st : List Value) (G : mc_H), mc_ev X 106 40 [v0, v1, .int x, v3, v4] st G = mc_ev X 106 41 [v0, v1, .int x, v3, v4] (.int x :: st) G) ∧
  (∀ (x y : Int32) (ls st : List Value) (G : mc_H), mc_ev X 106 41 ls (.int y :: .int x :: st) G = if x = y then mc_ev X 106 47 ls st G else mc_ev X 106 44 ls st G) ∧
  (∀ (ls st : List Value) (G : mc_H), mc_ev X 106 44 ls st G = mc_ev X 106 46 ls (.int (-13) :: st) G) ∧
  (∀ (v : Int32) (ls : List Value) (G : mc_H), mc_ev X 106 46 ls [.int v] G = some (some (.int v), G)) ∧
  (∀ (v1 v2 v3 v4 : Value) (x : Nat) (st : List Value) (G : mc_H), mc_ev X 106 47 [.ref x, v1, v2, v3, v4] st G = mc_ev X 106 48 [.ref x, v1, v2, v3, v4] (.ref x :: st) G) ∧
  (∀ (r : Nat) (ls st : List Value) (G : mc_H), mc_ev X 106 48 ls (.ref r :: st) G = (mc_getf G r 7 4).bind (fun v => mc_ev X 106 51 ls (v :: st) G)) ∧
  (∀ (v0 v2 v3 v4 : Value) (x : Int32) (st : List Value) (G : mc_H), mc_ev X 106 51 [v0, .int x, v2, v3, v4] st G = mc_ev X 106 52 [v0, .int x, v2, v3, v4] (.int x :: st) G) ∧
  (∀ (i : Int32) (r : Nat) (ls st : List Value) (G : mc_H), mc_ev X 106 52 ls (.int i :: .ref r :: st) G = (mc_getQ G r i).bind (fun x => mc_ev X 106 53 ls (.ref x :: st) G)) ∧
  (∀ (v0 v1 v2 v4 : Value) (x : Int32) (st : List Value) (G : mc_H), mc_ev X 106 53 [v0, v1, v2, .int x, v4] st G = mc_ev X 106 54 [v0, v1, v2, .int x, v4] (.int x :: st) G) ∧
  (∀ (v0 v1 v2 v3 : Value) (x : Int32) (st : List Value) (G : mc_H), mc_ev X 106 54 [v0, v1, v2, v3, .int x] st G = mc_ev X 106 56 [v0, v1, v2, v3, .int x] (.int x :: st) G) ∧
  (∀ (a0 : Int32) (a1 : Int32) (r : Nat) (ls st : List Value) (G : mc_H), st.length ≤ 4 → mc_cls G r = some 6 → mc_ev X 106 56 ls (.int a1 :: .int a0 :: .ref r :: st) G = (mc_ev X 56 0 [.ref r, .int a0, .int a1] [] G).bind (fun q => mc_ev X 106 59 ls (q.1.toList ++ st) q.2)) ∧
  (∀ (v : Int32) (ls : List Value) (G : mc_H), mc_ev X 106 59 ls [.int v] G = some (some (.int v), G)) := ⟨fun v0 v2 v3 v4 x st G => ev_iload_n rfl rfl,
  fun a0 ls st G hr => ev_stat (As := [.int a0]) rfl (by decide) rfl rfl rfl rfl hr,
  fun x ls st G => ev_br rfl rfl,
  fun v0 v1 v3 v4 x st G => ev_iload_n rfl rfl,
  fun a0 ls st G hr => ev_stat (As := [.int a0]) rfl (by decide) rfl rfl rfl rfl hr,
  fun x ls st G => ev_br rfl rfl,
  fun ls st G => ev_iconst rfl rfl,
  fun v ls G => ev_ireturn rfl rfl,
  fun v1 v2 v3 v4 x st G => ev_aload_n rfl rfl,
  fun r ls st G => ev_getfield rfl,
  fun v0 v2 v3 v4 x st G => ev_iload_n rfl rfl,
  fun i r ls st G => ev_aaload rfl,
  fun r ls st G hr hG => ev_virt (As := []) rfl rfl rfl rfl rfl rfl hr hG,
  fun x ls st G => ev_br rfl rfl,
  fun ls st G => ev_bipush rfl rfl,
  fun v ls G => ev_ireturn rfl rfl,
  fun v1 v2 v3 v4 x st G => ev_aload_n rfl rfl,
  fun r ls st G => ev_getfield rfl,
  fun v0 v2 v3 v4 x st G => ev_iload_n rfl rfl,
  fun i r ls st G => ev_aaload rfl,
  fun r ls st G => ev_getfield rfl,
  fun v0 v1 v3 v4 x st G => ev_iload_n rfl rfl,
  fun x y ls st G => ev_br rfl rfl,
  fun ls st G => ev_bipush rfl rfl,
  fun v ls G => ev_ireturn rfl rfl,
  fun v1 v2 v3 v4 x st G => ev_aload_n rfl rfl,
  fun r ls st G => ev_getfield rfl,
  fun v0 v2 v3 v4 x st G => ev_iload_n rfl rfl,
  fun i r ls st G => ev_aaload rfl,
  fun v0 v1 v2 v4 x st G => ev_iload_n rfl rfl,
  fun v0 v1 v2 v3 x st G => ev_iload rfl rfl,
  fun a0 a1 r ls st G hr hG => ev_virt (As := [.int a0, .int a1]) rfl rfl rfl rfl rfl rfl hr hG,
  fun v ls G => ev_ireturn rfl rfl⟩
theorem e_107 {X : mc_X} : (∀ (v1 v2 v3 : Value) (x : Nat) (st : List Value) (G : mc_H), mc_ev X 107 0 [.ref x, v1, v2, v3] st G = mc_ev X 107 1 [.ref x, v1, v2, v3] (.ref x :: st) G) ∧
  (∀ (r : Nat) (ls st : List Value) (G : mc_H), st.length ≤ 4 → mc_cls G r = some 6 → mc_ev X 107 1 ls (.ref r :: st) G = (mc_ev X 49 0 [.ref r] [] G).bind (fun q => mc_ev X 107 4 ls (q.1.toList ++ st) q.2)) ∧
  (∀ (x : Int32) (ls st : List Value) (G : mc_H), mc_ev X 107 4 ls (.int x :: st) G = if x = 0 then mc_ev X 107 7 ls st G else mc_ev X 107 14 ls st G) ∧
  (∀ (v0 v1 v3 : Value) (x : Nat) (st : List Value) (G : mc_H), mc_ev X 107 7 [v0, v1, .ref x, v3] st G = mc_ev X 107 8 [v0, v1, .ref x, v3] (.ref x :: st) G) ∧
  (∀ (r : Nat) (ls st : List Value) (G : mc_H), st.length ≤ 4 → mc_cls G r = some 6 → mc_ev X 107 8 ls (.ref r :: st) G = (mc_ev X 49 0 [.ref r] [] G).bind (fun q => mc_ev X 107 11 ls (q.1.toList ++ st) q.2)) ∧
  (∀ (x : Int32) (ls st : List Value) (G : mc_H), mc_ev X 107 11 ls (.int x :: st) G = if x = 0 then mc_ev X 107 17 ls st G else mc_ev X 107 14 ls st G) ∧
  (∀ (ls st : List Value) (G : mc_H), mc_ev X 107 14 ls st G = mc_ev X 107 16 ls (.int (-11) :: st) G) ∧
  (∀ (v : Int32) (ls : List Value) (G : mc_H), mc_ev X 107 16 ls [.int v] G = some (some (.int v), G)) ∧
  (∀ (v1 v2 v3 : Value) (x : Nat) (st : List Value) (G : mc_H), mc_ev X 107 17 [.ref x, v1, v2, v3] st G = mc_ev X 107 18 [.ref x, v1, v2, v3] (.ref x :: st) G) ∧
  (∀ (r : Nat) (ls st : List Value) (G : mc_H), mc_ev X 107 18 ls (.ref r :: st) G = (mc_getf G r 6 0).bind (fun v => mc_ev X 107 21 ls (v :: st) G)) ∧
  (∀ (v0 v1 v3 : Value) (x : Nat) (st : List Value) (G : mc_H), mc_ev X 107 21 [v0, v1, .ref x, v3] st G = mc_ev X 107 22 [v0, v1, .ref x, v3] (.ref x :: st) G) ∧
  (∀ (r : Nat) (ls st : List Value) (G : mc_H), mc_ev X 107 22 ls (.ref r :: st) G = (mc_getf G r 6 0).bind (fun v => mc_ev X 107 25 ls (v :: st) G)) ∧
  (∀ (x y : Int32) (ls st : List Value) (G : mc_H), mc_ev X 107 25 ls (.int y :: .int x :: st) G = if x = y then mc_ev X 107 31 ls st G else mc_ev X 107 28 ls st G) ∧
  (∀ (ls st : List Value) (G : mc_H), mc_ev X 107 28 ls st G = mc_ev X 107 30 ls (.int (-13) :: st) G) ∧
  (∀ (v : Int32) (ls : List Value) (G : mc_H), mc_ev X 107 30 ls [.int v] G = some (some (.int v), G)) ∧
  (∀ (v1 v2 v3 : Value) (x : Nat) (st : List Value) (G : mc_H), mc_ev X 107 31 [.ref x, v1, v2, v3] st G = mc_ev X 107 32 [.ref x, v1, v2, v3] (.ref x :: st) G) ∧
  (∀ (v0 v2 v3 : Value) (x : Int32) (st : List Value) (G : mc_H), mc_ev X 107 32 [v0, .int x, v2, v3] st G = mc_ev X 107 33 [v0, .int x, v2, v3] (.int x :: st) G) ∧
  (∀ (a0 : Int32) (r : Nat) (ls st : List Value) (G : mc_H), st.length ≤ 4 → mc_cls G r = some 6 → mc_ev X 107 33 ls (.int a0 :: .ref r :: st) G = (mc_ev X 51 0 [.ref r, .int a0] [] G).bind (fun q => mc_ev X 107 36 ls (q.1.toList ++ st) q.2)) ∧
  (∀ (x : Int32) (ls st : List Value) (G : mc_H), mc_ev X 107 36 ls (.int x :: st) G = if x = 0 then mc_ev X 107 39 ls st G else mc_ev X 107 47 ls st G) ∧
  (∀ (v0 v1 v3 : Value) (x : Nat) (st : List Value) (G : mc_H), mc_ev X 107 39 [v0, v1, .ref x, v3] st G = mc_ev X 107 40 [v0, v1, .ref x, v3] (.ref x :: st) G) ∧
  (∀ (v0 v1 v2 : Value) (x : Int32) (st : List Value) (G : mc_H), mc_ev X 107 40 [v0, v1, v2, .int x] st G = mc_ev X 107 41 [v0, v1, v2, .int x] (.int x :: st) G) ∧
  (∀ (a0 : Int32) (r : Nat) (ls st : List Value) (G : mc_H), st.length ≤ 4 → mc_cls G r = some 6 → mc_ev X 107 41 ls (.int a0 :: .ref r :: st) G = (mc_ev X 51 0 [.ref r, .int a0] [] G).bind (fun q => mc_ev X 107 44 ls (q.1.toList ++ st) q.2)) ∧
  (∀ (x : Int32) (ls st : List Value) (G : mc_H), mc_ev X 107 44 ls (.int x :: st) G = if x = 0 then mc_ev X 107 50 ls st G else mc_ev X 107 47 ls st G) ∧
  (∀ (ls st : List Value) (G : mc_H), mc_ev X 107 47 ls st G = mc_ev X 107 49 ls (.int (-12) :: st) G) ∧
  (∀ (v : Int32) (ls : List Value) (G : mc_H), mc_ev X 107 49 ls [.int v] G = some (some (.int v), G)) ∧
  (∀ (v1 v2 v3 : Value) (x : Nat) (st : List Value) (G : mc_H), mc_ev X 107 50 [.ref x, v1, v2, v3] st G = mc_ev X 107 51 [.ref x, v1, v2, v3] (.ref x :: st) G) ∧
  (∀ (v0 v2 v3 : Value) (x : Int32) (st : List Value) (G : mc_H), mc_ev X 107 51 [v0, .int x, v2, v3] st G = mc_ev X 107 52 [v0, .int x, v2, v3] (.int x :: st) G) ∧
  (∀ (a0 : Int32) (r : Nat) (ls st : List Value) (G : mc_H), st.length ≤ 4 → mc_cls G r = some 6 → mc_ev X 107 52 ls (.int a0 :: .ref r :: st) G = (mc_ev X 52 0 [.ref r, .int a0] [] G).bind (fun q => mc_ev X 107 55 ls (q.1.toList ++ st) q.2)) ∧
  (∀ (x : Int32) (ls st : List Value) (G : mc_H), mc_ev X 107 55 ls (.int x :: st) G = if x = 0 then mc_ev X 107 58 ls st G else mc_ev X 107 66 ls st G) ∧
  (∀ (v0 v1 v3 : Value) (x : Nat) (st : List Value) (G : mc_H), mc_ev X 107 58 [v0, v1, .ref x, v3] st G = mc_ev X 107 59 [v0, v1, .ref x, v3] (.ref x :: st) G) ∧
  (∀ (v0 v1 v2 : Value) (x : Int32) (st : List Value) (G : mc_H), mc_ev X 107 59 [v0, v1, v2, .int x] st G = mc_ev X 107 60 [v0, v1, v2, .int x] (.int x :: st) G) ∧
  (∀ (a0 : Int32) (r : Nat) (ls st : List Value) (G : mc_H), st.length ≤ 4 → mc_cls G r = some 6 → mc_ev X 107 60 ls (.int a0 :: .ref r :: st) G = (mc_ev X 52 0 [.ref r, .int a0] [] G).bind (fun q => mc_ev X 107 63 ls (q.1.toList ++ st) q.2)) ∧
  (∀ (x : Int32) (ls st : List Value) (G : mc_H), mc_ev X 107 63 ls (.int x :: st) G = if x = 0 then mc_ev X 107 71 ls st G else mc_ev X 107 66 ls st G) ∧
  (∀ (ls st : List Value) (G : mc_H), mc_ev X 107 66 ls st G = mc_ev X 107 68 ls (.int (-11) :: st) G) ∧
  (∀ (ls st : List Value) (G : mc_H), mc_ev X 107 68 ls st G = mc_ev X 107 72 ls st G) ∧
  (∀ (ls st : List Value) (G : mc_H), mc_ev X 107 71 ls st G = mc_ev X 107 72 ls (.int 0 :: st) G) ∧
  (∀ (v : Int32) (ls : List Value) (G : mc_H), mc_ev X 107 72 ls [.int v] G = some (some (.int v), G)) := ⟨fun v1 v2 v3 x st G => ev_aload_n rfl rfl,
  fun r ls st G hr hG => ev_virt (As := []) rfl rfl rfl rfl rfl rfl hr hG,
  fun x ls st G => ev_br rfl rfl,
  fun v0 v1 v3 x st G => ev_aload_n rfl rfl,
  fun r ls st G hr hG => ev_virt (As := []) rfl rfl rfl rfl rfl rfl hr hG,
  fun x ls st G => ev_br rfl rfl,
  fun ls st G => ev_bipush rfl rfl,
  fun v ls G => ev_ireturn rfl rfl,
  fun v1 v2 v3 x st G => ev_aload_n rfl rfl,
  fun r ls st G => ev_getfield rfl,
  fun v0 v1 v3 x st G => ev_aload_n rfl rfl,
  fun r ls st G => ev_getfield rfl,
  fun x y ls st G => ev_br rfl rfl,
  fun ls st G => ev_bipush rfl rfl,
  fun v ls G => ev_ireturn rfl rfl,
  fun v1 v2 v3 x st G => ev_aload_n rfl rfl,
  fun v0 v2 v3 x st G => ev_iload_n rfl rfl,
  fun a0 r ls st G hr hG => ev_virt (As := [.int a0]) rfl rfl rfl rfl rfl rfl hr hG,
  fun x ls st G => ev_br rfl rfl,
  fun v0 v1 v3 x st G => ev_aload_n rfl rfl,
  fun v0 v1 v2 x st G => ev_iload_n rfl rfl,
  fun a0 r ls st G hr hG => ev_virt (As := [.int a0]) rfl rfl rfl rfl rfl rfl hr hG,
  fun x ls st G => ev_br rfl rfl,
  fun ls st G => ev_bipush rfl rfl,
  fun v ls G => ev_ireturn rfl rfl,
  fun v1 v2 v3 x st G => ev_aload_n rfl rfl,
  fun v0 v2 v3 x st G => ev_iload_n rfl rfl,
  fun a0 r ls st G hr hG => ev_virt (As := [.int a0]) rfl rfl rfl rfl rfl rfl hr hG,
  fun x ls st G => ev_br rfl rfl,
  fun v0 v1 v3 x st G => ev_aload_n rfl rfl,
  fun v0 v1 v2 x st G => ev_iload_n rfl rfl,
  fun a0 r ls st G hr hG => ev_virt (As := [.int a0]) rfl rfl rfl rfl rfl rfl hr hG,
  fun x ls st G => ev_br rfl rfl,
  fun ls st G => ev_bipush rfl rfl,
  fun ls st G => ev_goto rfl rfl,
  fun ls st G => ev_iconst rfl rfl,
  fun v ls G => ev_ireturn rfl rfl⟩
theorem h_108_2 {X : mc_X} : ∀ (v0 v1 v2 v4 : Value) (x : Int32) (st : List Value) (G : mc_H), mc_ev X 108 2 [v0, v1, v2, .int x, v4] st G = mc_ev X 108 3 [v0, v1, v2, .int x, v4] (.int x :: st) G := fun v0 v1 v2 v4 x st G => ev_iload_n rfl rfl
theorem e_108 {X : mc_X} : (∀ (ls st : List Value) (G : mc_H), mc_ev X 108 0 ls st G = mc_ev X 108 1 ls (.int 0 :: st) G) ∧
  (∀ (v0 v1 v2 v3 v4 : Value) (x : Int32) (st : List Value) (G : mc_H), mc_ev X 108 1 [v0, v1, v2, v3, v4] (.int x :: st) G = mc_ev X 108 2 [v0, v1, v2, .int x, v4] st G) ∧
  (∀ (v0 v1 v3 v4 : Value) (x : Int32) (st : List Value) (G : mc_H), mc_ev X 108 3 [v0, v1, .int x, v3, v4] st G = mc_ev X 108 4 [v0, v1, .int x, v3, v4] (.int x :: st) G) ∧
  (∀ (x y : Int32) (ls st : List Value) (G : mc_H), mc_ev X 108 4 ls (.int y :: .int x :: st) G = if x < y then mc_ev X 108 7 ls st G else mc_ev X 108 55 ls st G) ∧
  (∀ (v1 v2 v3 v4 : Value) (x : Nat) (st : List Value) (G : mc_H), mc_ev X 108 7 [.ref x, v1, v2, v3, v4] st G = mc_ev X 108 8 [.ref x, v1, v2, v3, v4] (.ref x :: st) G) ∧
  (∀ (r : Nat) (ls st : List Value) (G : mc_H), st.length ≤ 4 → mc_cls G r = some 6 → mc_ev X 108 8 ls (.ref r :: st) G = (mc_ev X 49 0 [.ref r] [] G).bind (fun q => mc_ev X 108 11 ls (q.1.toList ++ st) q.2)) ∧
  (∀ (x : Int32) (ls st : List Value) (G : mc_H), mc_ev X 108 11 ls (.int x :: st) G = if x = 0 then mc_ev X 108 19 ls st G else mc_ev X 108 14 ls st G) ∧
  (∀ (ls st : List Value) (G : mc_H), mc_ev X 108 14 ls st G = mc_ev X 108 16 ls (.int (-11) :: st) G) ∧
  (∀ (ls st : List Value) (G : mc_H), mc_ev X 108 16 ls st G = mc_ev X 108 25 ls st G) ∧
  (∀ (v1 v2 v3 v4 : Value) (x : Nat) (st : List Value) (G : mc_H), mc_ev X 108 19 [.ref x, v1, v2, v3, v4] st G = mc_ev X 108 20 [.ref x, v1, v2, v3, v4] (.ref x :: st) G) ∧
  (∀ (v0 v2 v3 v4 : Value) (x : Int32) (st : List Value) (G : mc_H), mc_ev X 108 20 [v0, .int x, v2, v3, v4] st G = mc_ev X 108 21 [v0, .int x, v2, v3, v4] (.int x :: st) G) ∧
  (∀ (v0 v1 v2 v4 : Value) (x : Int32) (st : List Value) (G : mc_H), mc_ev X 108 21 [v0, v1, v2, .int x, v4] st G = mc_ev X 108 22 [v0, v1, v2, .int x, v4] (.int x :: st) G) ∧
  (∀ (a0 : Int32) (a1 : Int32) (r : Nat) (ls st : List Value) (G : mc_H), st.length ≤ 4 → mc_cls G r = some 6 → mc_ev X 108 22 ls (.int a1 :: .int a0 :: .ref r :: st) G = (mc_ev X 56 0 [.ref r, .int a0, .int a1] [] G).bind (fun q => mc_ev X 108 25 ls (q.1.toList ++ st) q.2)) ∧
  (∀ (v0 v1 v2 v3 v4 : Value) (x : Int32) (st : List Value) (G : mc_H), mc_ev X 108 25 [v0, v1, v2, v3, v4] (.int x :: st) G = mc_ev X 108 27 [v0, v1, v2, v3, .int x] st G) ∧
  (∀ (v0 v1 v2 v3 : Value) (x : Int32) (st : List Value) (G : mc_H), mc_ev X 108 27 [v0, v1, v2, v3, .int x] st G = mc_ev X 108 29 [v0, v1, v2, v3, .int x] (.int x :: st) G) ∧
  (∀ (x : Int32) (ls st : List Value) (G : mc_H), mc_ev X 108 29 ls (.int x :: st) G = if x = 0 then mc_ev X 108 35 ls st G else mc_ev X 108 32 ls st G) ∧
  (∀ (v0 v1 v2 v3 : Value) (x : Int32) (st : List Value) (G : mc_H), mc_ev X 108 32 [v0, v1, v2, v3, .int x] st G = mc_ev X 108 34 [v0, v1, v2, v3, .int x] (.int x :: st) G) ∧
  (∀ (v : Int32) (ls : List Value) (G : mc_H), mc_ev X 108 34 ls [.int v] G = some (some (.int v), G)) ∧
  (∀ (v1 v2 v3 v4 : Value) (x : Nat) (st : List Value) (G : mc_H), mc_ev X 108 35 [.ref x, v1, v2, v3, v4] st G = mc_ev X 108 36 [.ref x, v1, v2, v3, v4] (.ref x :: st) G) ∧
  (∀ (v0 v2 v3 v4 : Value) (x : Int32) (st : List Value) (G : mc_H), mc_ev X 108 36 [v0, .int x, v2, v3, v4] st G = mc_ev X 108 37 [v0, .int x, v2, v3, v4] (.int x :: st) G) ∧
  (∀ (v0 v1 v2 v4 : Value) (x : Int32) (st : List Value) (G : mc_H), mc_ev X 108 37 [v0, v1, v2, .int x, v4] st G = mc_ev X 108 38 [v0, v1, v2, .int x, v4] (.int x :: st) G) ∧
  (∀ (a0 : Int32) (a1 : Int32) (r : Nat) (ls st : List Value) (G : mc_H), st.length ≤ 4 → mc_cls G r = some 6 → mc_ev X 108 38 ls (.int a1 :: .int a0 :: .ref r :: st) G = (mc_ev X 55 0 [.ref r, .int a0, .int a1] [] G).bind (fun q => mc_ev X 108 41 ls (q.1.toList ++ st) q.2)) ∧
  (∀ (a0 : Int32) (ls st : List Value) (G : mc_H), st.length ≤ 4 → mc_ev X 108 41 ls (.int a0 :: st) G = (mc_ev X 100 0 [.int a0] [] G).bind (fun q => mc_ev X 108 44 ls (q.1.toList ++ st) q.2)) ∧
  (∀ (x : Int32) (ls st : List Value) (G : mc_H), mc_ev X 108 44 ls (.int x :: st) G = if x = 0 then mc_ev X 108 49 ls st G else mc_ev X 108 47 ls st G) ∧
  (∀ (ls st : List Value) (G : mc_H), mc_ev X 108 47 ls st G = mc_ev X 108 48 ls (.int (-1) :: st) G) ∧
  (∀ (v : Int32) (ls : List Value) (G : mc_H), mc_ev X 108 48 ls [.int v] G = some (some (.int v), G)) ∧
  (∀ (v0 v1 v2 v4 : Value) (x : Int32) (st : List Value) (G : mc_H), mc_ev X 108 49 [v0, v1, v2, .int x, v4] st G = mc_ev X 108 52 [v0, v1, v2, .int (x + 1), v4] st G) ∧
  (∀ (ls st : List Value) (G : mc_H), mc_ev X 108 52 ls st G = mc_ev X 108 2 ls st G) ∧
  (∀ (ls st : List Value) (G : mc_H), mc_ev X 108 55 ls st G = mc_ev X 108 56 ls (.int 0 :: st) G) ∧
  (∀ (v : Int32) (ls : List Value) (G : mc_H), mc_ev X 108 56 ls [.int v] G = some (some (.int v), G)) := ⟨fun ls st G => ev_iconst rfl rfl,
  fun v0 v1 v2 v3 v4 x st G => ev_istore_n (X := X) (k := 108) (pc := 1) (ls := [v0, v1, v2, v3, v4]) (st := st) (G := G) (j := 3) (x := x) rfl (Nat.le_of_ble_eq_true rfl),
  fun v0 v1 v3 v4 x st G => ev_iload_n rfl rfl,
  fun x y ls st G => ev_br rfl rfl,
  fun v1 v2 v3 v4 x st G => ev_aload_n rfl rfl,
  fun r ls st G hr hG => ev_virt (As := []) rfl rfl rfl rfl rfl rfl hr hG,
  fun x ls st G => ev_br rfl rfl,
  fun ls st G => ev_bipush rfl rfl,
  fun ls st G => ev_goto rfl rfl,
  fun v1 v2 v3 v4 x st G => ev_aload_n rfl rfl,
  fun v0 v2 v3 v4 x st G => ev_iload_n rfl rfl,
  fun v0 v1 v2 v4 x st G => ev_iload_n rfl rfl,
  fun a0 a1 r ls st G hr hG => ev_virt (As := [.int a0, .int a1]) rfl rfl rfl rfl rfl rfl hr hG,
  fun v0 v1 v2 v3 v4 x st G => ev_istore (X := X) (k := 108) (pc := 25) (ls := [v0, v1, v2, v3, v4]) (st := st) (G := G) (j := 4) (x := x) rfl (Nat.le_of_ble_eq_true rfl),
  fun v0 v1 v2 v3 x st G => ev_iload rfl rfl,
  fun x ls st G => ev_br rfl rfl,
  fun v0 v1 v2 v3 x st G => ev_iload rfl rfl,
  fun v ls G => ev_ireturn rfl rfl,
  fun v1 v2 v3 v4 x st G => ev_aload_n rfl rfl,
  fun v0 v2 v3 v4 x st G => ev_iload_n rfl rfl,
  fun v0 v1 v2 v4 x st G => ev_iload_n rfl rfl,
  fun a0 a1 r ls st G hr hG => ev_virt (As := [.int a0, .int a1]) rfl rfl rfl rfl rfl rfl hr hG,
  fun a0 ls st G hr => ev_stat (As := [.int a0]) rfl (by decide) rfl rfl rfl rfl hr,
  fun x ls st G => ev_br rfl rfl,
  fun ls st G => ev_iconst rfl rfl,
  fun v ls G => ev_ireturn rfl rfl,
  fun v0 v1 v2 v4 x st G => ev_iinc (X := X) (k := 108) (pc := 49) (ls := [v0, v1, v2, .int x, v4]) (st := st) (G := G) (j := 3) (n := 1) (x := x) (v := 1) rfl rfl rfl,
  fun ls st G => ev_goto rfl rfl,
  fun ls st G => ev_iconst rfl rfl,
  fun v ls G => ev_ireturn rfl rfl⟩
theorem e_109 {X : mc_X} : (∀ (x : Nat) (st : List Value) (G : mc_H), mc_ev X 109 0 [.ref x] st G = mc_ev X 109 1 [.ref x] (.ref x :: st) G) ∧
  (∀ (r : Nat) (ls st : List Value) (G : mc_H), mc_ev X 109 1 ls (.ref r :: st) G = (mc_getf G r 7 1).bind (fun v => mc_ev X 109 4 ls (v :: st) G)) ∧
  (∀ (x : Nat) (st : List Value) (G : mc_H), mc_ev X 109 4 [.ref x] st G = mc_ev X 109 5 [.ref x] (.ref x :: st) G) ∧
  (∀ (r : Nat) (ls st : List Value) (G : mc_H), mc_ev X 109 5 ls (.ref r :: st) G = (mc_getf G r 7 0).bind (fun v => mc_ev X 109 8 ls (v :: st) G)) ∧
  (∀ (r : Nat) (ls st : List Value) (G : mc_H), mc_ev X 109 8 ls (.ref r :: st) G = (mc_getf G r 4 1).bind (fun v => mc_ev X 109 11 ls (v :: st) G)) ∧
  (∀ (a0 : Nat) (r : Nat) (ls st : List Value) (G : mc_H), st.length ≤ 4 → mc_cls G r = some 1 → mc_ev X 109 11 ls (.ref a0 :: .ref r :: st) G = (mc_ev X 7 0 [.ref r, .ref a0] [] G).bind (fun q => mc_ev X 109 14 ls (q.1.toList ++ st) q.2)) ∧
  (∀ (x : Nat) (st : List Value) (G : mc_H), mc_ev X 109 14 [.ref x] st G = mc_ev X 109 15 [.ref x] (.ref x :: st) G) ∧
  (∀ (r : Nat) (ls st : List Value) (G : mc_H), mc_ev X 109 15 ls (.ref r :: st) G = (mc_getf G r 7 2).bind (fun v => mc_ev X 109 18 ls (v :: st) G)) ∧
  (∀ (ls st : List Value) (G : mc_H), mc_ev X 109 18 ls st G = mc_ev X 109 19 ls (.int 1 :: st) G) ∧
  (∀ (v : Value) (r : Nat) (ls st : List Value) (G : mc_H), mc_ev X 109 19 ls (v :: .ref r :: st) G = (mc_setf G r 2 1 v).bind (fun G' => mc_ev X 109 22 ls st G')) ∧
  (∀ (ls : List Value) (G : mc_H), mc_ev X 109 22 ls [] G = some (none, G)) := ⟨fun  x st G => ev_aload_n rfl rfl,
  fun r ls st G => ev_getfield rfl,
  fun  x st G => ev_aload_n rfl rfl,
  fun r ls st G => ev_getfield rfl,
  fun r ls st G => ev_getfield rfl,
  fun a0 r ls st G hr hG => ev_virt (As := [.ref a0]) rfl rfl rfl rfl rfl rfl hr hG,
  fun  x st G => ev_aload_n rfl rfl,
  fun r ls st G => ev_getfield rfl,
  fun ls st G => ev_iconst rfl rfl,
  fun v r ls st G => ev_putfield rfl,
  fun ls G => ev_return rfl rfl⟩
theorem e_110 {X : mc_X} : (∀ (x : Nat) (st : List Value) (G : mc_H), mc_ev X 110 0 [.ref x] st G = mc_ev X 110 1 [.ref x] (.ref x :: st) G) ∧
  (∀ (r : Nat) (ls st : List Value) (G : mc_H), mc_ev X 110 1 ls (.ref r :: st) G = (mc_getf G r 7 2).bind (fun v => mc_ev X 110 4 ls (v :: st) G)) ∧
  (∀ (r : Nat) (ls st : List Value) (G : mc_H), mc_ev X 110 4 ls (.ref r :: st) G = (mc_getf G r 2 1).bind (fun v => mc_ev X 110 7 ls (v :: st) G)) ∧
  (∀ (x : Int32) (ls st : List Value) (G : mc_H), mc_ev X 110 7 ls (.int x :: st) G = if x = 0 then mc_ev X 110 21 ls st G else mc_ev X 110 10 ls st G) ∧
  (∀ (x : Nat) (st : List Value) (G : mc_H), mc_ev X 110 10 [.ref x] st G = mc_ev X 110 11 [.ref x] (.ref x :: st) G) ∧
  (∀ (r : Nat) (ls st : List Value) (G : mc_H), mc_ev X 110 11 ls (.ref r :: st) G = (mc_getf G r 7 2).bind (fun v => mc_ev X 110 14 ls (v :: st) G)) ∧
  (∀ (x : Nat) (st : List Value) (G : mc_H), mc_ev X 110 14 [.ref x] st G = mc_ev X 110 15 [.ref x] (.ref x :: st) G) ∧
  (∀ (r : Nat) (ls st : List Value) (G : mc_H), mc_ev X 110 15 ls (.ref r :: st) G = (mc_getf G r 7 0).bind (fun v => mc_ev X 110 18 ls (v :: st) G)) ∧
  (∀ (a0 : Nat) (r : Nat) (ls st : List Value) (G : mc_H), st.length ≤ 4 → mc_cls G r = some 2 → mc_ev X 110 18 ls (.ref a0 :: .ref r :: st) G = (mc_ev X 11 0 [.ref r, .ref a0, .null] [] G).bind (fun q => mc_ev X 110 21 ls (q.1.toList ++ st) q.2)) ∧
  (∀ (x : Nat) (st : List Value) (G : mc_H), mc_ev X 110 21 [.ref x] st G = mc_ev X 110 22 [.ref x] (.ref x :: st) G) ∧
  (∀ (r : Nat) (ls st : List Value) (G : mc_H), mc_ev X 110 22 ls (.ref r :: st) G = (mc_getf G r 7 2).bind (fun v => mc_ev X 110 25 ls (v :: st) G)) ∧
  (∀ (v : Nat) (ls : List Value) (G : mc_H), mc_ev X 110 25 ls [.ref v] G = some (some (.ref v), G)) := ⟨fun  x st G => ev_aload_n rfl rfl,
  fun r ls st G => ev_getfield rfl,
  fun r ls st G => ev_getfield rfl,
  fun x ls st G => ev_br rfl rfl,
  fun  x st G => ev_aload_n rfl rfl,
  fun r ls st G => ev_getfield rfl,
  fun  x st G => ev_aload_n rfl rfl,
  fun r ls st G => ev_getfield rfl,
  fun a0 r ls st G hr hG => ev_virt (As := [.ref a0]) rfl rfl rfl rfl rfl rfl hr hG,
  fun  x st G => ev_aload_n rfl rfl,
  fun r ls st G => ev_getfield rfl,
  fun v ls G => ev_areturn rfl rfl⟩
