theorem h_1_54 {X : mc_X} : ∀ (v0 v1 v2 v4 : Value) (x : Int32) (st : List Value) (G : mc_H), mc_ev X 1 54 [v0, v1, v2, .int x, v4] st G = mc_ev X 1 55 [v0, v1, v2, .int x, v4] (.int x :: st) G := fun v0 v1 v2 v4 x st G => ev_iload_n rfl rfl
theorem h_1_65 {X : mc_X} : ∀ (v0 v1 v2 v3 : Value) (x : Int32) (st : List Value) (G : mc_H), mc_ev X 1 65 [v0, v1, v2, v3, .int x] st G = mc_ev X 1 67 [v0, v1, v2, v3, .int x] (.int x :: st) G := fun v0 v1 v2 v3 x st G => ev_iload rfl rfl
theorem h_1_136 {X : mc_X} : ∀ (v0 v1 v2 v4 : Value) (x : Int32) (st : List Value) (G : mc_H), mc_ev X 1 136 [v0, v1, v2, .int x, v4] st G = mc_ev X 1 137 [v0, v1, v2, .int x, v4] (.int x :: st) G := fun v0 v1 v2 v4 x st G => ev_iload_n rfl rfl
theorem h_1_149 {X : mc_X} : ∀ (v0 v1 v2 v3 : Value) (x : Int32) (st : List Value) (G : mc_H), mc_ev X 1 149 [v0, v1, v2, v3, .int x] st G = mc_ev X 1 151 [v0, v1, v2, v3, .int x] (.int x :: st) G := fun v0 v1 v2 v3 x st G => ev_iload rfl rfl
theorem e_1 {X : mc_X} : (∀ (v1 v2 v3 v4 : Value) (x : Nat) (st : List Value) (G : mc_H), mc_ev X 1 0 [.ref x, v1, v2, v3, v4] st G = mc_ev X 1 1 [.ref x, v1, v2, v3, v4] (.ref x :: st) G) ∧
  (∀ (v0 v2 v3 v4 : Value) (x : Int32) (st : List Value) (G : mc_H), mc_ev X 1 1 [v0, .int x, v2, v3, v4] st G = mc_ev X 1 2 [v0, .int x, v2, v3, v4] (.int x :: st) G) ∧
  (∀ (v : Value) (r : Nat) (ls st : List Value) (G : mc_H), mc_ev X 1 2 ls (v :: .ref r :: st) G = (mc_setf G r 0 0 v).bind (fun G' => mc_ev X 1 5 ls st G')) ∧
  (∀ (v1 v2 v3 v4 : Value) (x : Nat) (st : List Value) (G : mc_H), mc_ev X 1 5 [.ref x, v1, v2, v3, v4] st G = mc_ev X 1 6 [.ref x, v1, v2, v3, v4] (.ref x :: st) G) ∧
  (∀ (v0 v1 v3 v4 : Value) (x : Int32) (st : List Value) (G : mc_H), mc_ev X 1 6 [v0, v1, .int x, v3, v4] st G = mc_ev X 1 7 [v0, v1, .int x, v3, v4] (.int x :: st) G) ∧
  (∀ (v : Value) (r : Nat) (ls st : List Value) (G : mc_H), mc_ev X 1 7 ls (v :: .ref r :: st) G = (mc_setf G r 0 1 v).bind (fun G' => mc_ev X 1 10 ls st G')) ∧
  (∀ (v1 v2 v3 v4 : Value) (x : Nat) (st : List Value) (G : mc_H), mc_ev X 1 10 [.ref x, v1, v2, v3, v4] st G = mc_ev X 1 11 [.ref x, v1, v2, v3, v4] (.ref x :: st) G) ∧
  (∀ (v1 v2 v3 v4 : Value) (x : Nat) (st : List Value) (G : mc_H), mc_ev X 1 11 [.ref x, v1, v2, v3, v4] st G = mc_ev X 1 12 [.ref x, v1, v2, v3, v4] (.ref x :: st) G) ∧
  (∀ (r : Nat) (ls st : List Value) (G : mc_H), mc_ev X 1 12 ls (.ref r :: st) G = (mc_getf G r 0 0).bind (fun v => mc_ev X 1 15 ls (v :: st) G)) ∧
  (∀ (v1 v2 v3 v4 : Value) (x : Nat) (st : List Value) (G : mc_H), mc_ev X 1 15 [.ref x, v1, v2, v3, v4] st G = mc_ev X 1 16 [.ref x, v1, v2, v3, v4] (.ref x :: st) G) ∧
  (∀ (r : Nat) (ls st : List Value) (G : mc_H), mc_ev X 1 16 ls (.ref r :: st) G = (mc_getf G r 0 1).bind (fun v => mc_ev X 1 19 ls (v :: st) G)) ∧
  (∀ (x y : Int32) (ls st : List Value) (G : mc_H), mc_ev X 1 19 ls (.int y :: .int x :: st) G = mc_ev X 1 20 ls (.int (x * y) :: st) G) ∧
  (∀ (v : Value) (r : Nat) (ls st : List Value) (G : mc_H), mc_ev X 1 20 ls (v :: .ref r :: st) G = (mc_setf G r 0 2 v).bind (fun G' => mc_ev X 1 23 ls st G')) ∧
  (∀ (v1 v2 v3 v4 : Value) (x : Nat) (st : List Value) (G : mc_H), mc_ev X 1 23 [.ref x, v1, v2, v3, v4] st G = mc_ev X 1 24 [.ref x, v1, v2, v3, v4] (.ref x :: st) G) ∧
  (∀ (v1 v2 v3 v4 : Value) (x : Nat) (st : List Value) (G : mc_H), mc_ev X 1 24 [.ref x, v1, v2, v3, v4] st G = mc_ev X 1 25 [.ref x, v1, v2, v3, v4] (.ref x :: st) G) ∧
  (∀ (r : Nat) (ls st : List Value) (G : mc_H), mc_ev X 1 25 ls (.ref r :: st) G = (mc_getf G r 0 0).bind (fun v => mc_ev X 1 28 ls (v :: st) G)) ∧
  (∀ (ls st : List Value) (G : mc_H), mc_ev X 1 28 ls st G = mc_ev X 1 29 ls (.int 1 :: st) G) ∧
  (∀ (x y : Int32) (ls st : List Value) (G : mc_H), mc_ev X 1 29 ls (.int y :: .int x :: st) G = mc_ev X 1 30 ls (.int (x - y) :: st) G) ∧
  (∀ (v1 v2 v3 v4 : Value) (x : Nat) (st : List Value) (G : mc_H), mc_ev X 1 30 [.ref x, v1, v2, v3, v4] st G = mc_ev X 1 31 [.ref x, v1, v2, v3, v4] (.ref x :: st) G) ∧
  (∀ (r : Nat) (ls st : List Value) (G : mc_H), mc_ev X 1 31 ls (.ref r :: st) G = (mc_getf G r 0 1).bind (fun v => mc_ev X 1 34 ls (v :: st) G)) ∧
  (∀ (ls st : List Value) (G : mc_H), mc_ev X 1 34 ls st G = mc_ev X 1 35 ls (.int 1 :: st) G) ∧
  (∀ (x y : Int32) (ls st : List Value) (G : mc_H), mc_ev X 1 35 ls (.int y :: .int x :: st) G = mc_ev X 1 36 ls (.int (x - y) :: st) G) ∧
  (∀ (x y : Int32) (ls st : List Value) (G : mc_H), mc_ev X 1 36 ls (.int y :: .int x :: st) G = mc_ev X 1 37 ls (.int (x * y) :: st) G) ∧
  (∀ (ls st : List Value) (G : mc_H), mc_ev X 1 37 ls st G = mc_ev X 1 38 ls (.int 1 :: st) G) ∧
  (∀ (x y : Int32) (ls st : List Value) (G : mc_H), mc_ev X 1 38 ls (.int y :: .int x :: st) G = mc_ev X 1 39 ls (.int (x + y) :: st) G) ∧
  (∀ (v : Value) (r : Nat) (ls st : List Value) (G : mc_H), mc_ev X 1 39 ls (v :: .ref r :: st) G = (mc_setf G r 0 4 v).bind (fun G' => mc_ev X 1 42 ls st G')) ∧
  (∀ (v1 v2 v3 v4 : Value) (x : Nat) (st : List Value) (G : mc_H), mc_ev X 1 42 [.ref x, v1, v2, v3, v4] st G = mc_ev X 1 43 [.ref x, v1, v2, v3, v4] (.ref x :: st) G) ∧
  (∀ (ls st : List Value) (G : mc_H), mc_ev X 1 43 ls st G = mc_ev X 1 44 ls (.int 0 :: st) G) ∧
  (∀ (v : Value) (r : Nat) (ls st : List Value) (G : mc_H), mc_ev X 1 44 ls (v :: .ref r :: st) G = (mc_setf G r 0 3 v).bind (fun G' => mc_ev X 1 47 ls st G')) ∧
  (∀ (v1 v2 v3 v4 : Value) (x : Nat) (st : List Value) (G : mc_H), mc_ev X 1 47 [.ref x, v1, v2, v3, v4] st G = mc_ev X 1 48 [.ref x, v1, v2, v3, v4] (.ref x :: st) G) ∧
  (∀ (ls st : List Value) (G : mc_H), mc_ev X 1 48 ls st G = mc_ev X 1 49 ls (.int 0 :: st) G) ∧
  (∀ (v : Value) (r : Nat) (ls st : List Value) (G : mc_H), mc_ev X 1 49 ls (v :: .ref r :: st) G = (mc_setf G r 0 5 v).bind (fun G' => mc_ev X 1 52 ls st G')) ∧
  (∀ (ls st : List Value) (G : mc_H), mc_ev X 1 52 ls st G = mc_ev X 1 53 ls (.int 0 :: st) G) ∧
  (∀ (v0 v1 v2 v3 v4 : Value) (x : Int32) (st : List Value) (G : mc_H), mc_ev X 1 53 [v0, v1, v2, v3, v4] (.int x :: st) G = mc_ev X 1 54 [v0, v1, v2, .int x, v4] st G) ∧
  (∀ (v1 v2 v3 v4 : Value) (x : Nat) (st : List Value) (G : mc_H), mc_ev X 1 55 [.ref x, v1, v2, v3, v4] st G = mc_ev X 1 56 [.ref x, v1, v2, v3, v4] (.ref x :: st) G) ∧
  (∀ (r : Nat) (ls st : List Value) (G : mc_H), mc_ev X 1 56 ls (.ref r :: st) G = (mc_getf G r 0 0).bind (fun v => mc_ev X 1 59 ls (v :: st) G)) ∧
  (∀ (x y : Int32) (ls st : List Value) (G : mc_H), mc_ev X 1 59 ls (.int y :: .int x :: st) G = if x < y then mc_ev X 1 62 ls st G else mc_ev X 1 134 ls st G) ∧
  (∀ (ls st : List Value) (G : mc_H), mc_ev X 1 62 ls st G = mc_ev X 1 63 ls (.int 0 :: st) G) ∧
  (∀ (v0 v1 v2 v3 v4 : Value) (x : Int32) (st : List Value) (G : mc_H), mc_ev X 1 63 [v0, v1, v2, v3, v4] (.int x :: st) G = mc_ev X 1 65 [v0, v1, v2, v3, .int x] st G) ∧
  (∀ (v1 v2 v3 v4 : Value) (x : Nat) (st : List Value) (G : mc_H), mc_ev X 1 67 [.ref x, v1, v2, v3, v4] st G = mc_ev X 1 68 [.ref x, v1, v2, v3, v4] (.ref x :: st) G) ∧
  (∀ (r : Nat) (ls st : List Value) (G : mc_H), mc_ev X 1 68 ls (.ref r :: st) G = (mc_getf G r 0 1).bind (fun v => mc_ev X 1 71 ls (v :: st) G)) ∧
  (∀ (x y : Int32) (ls st : List Value) (G : mc_H), mc_ev X 1 71 ls (.int y :: .int x :: st) G = if x < y then mc_ev X 1 74 ls st G else mc_ev X 1 128 ls st G) ∧
  (∀ (v1 v2 v3 v4 : Value) (x : Nat) (st : List Value) (G : mc_H), mc_ev X 1 74 [.ref x, v1, v2, v3, v4] st G = mc_ev X 1 75 [.ref x, v1, v2, v3, v4] (.ref x :: st) G) ∧
  (∀ (v0 v1 v2 v4 : Value) (x : Int32) (st : List Value) (G : mc_H), mc_ev X 1 75 [v0, v1, v2, .int x, v4] st G = mc_ev X 1 76 [v0, v1, v2, .int x, v4] (.int x :: st) G) ∧
  (∀ (v0 v1 v2 v3 : Value) (x : Int32) (st : List Value) (G : mc_H), mc_ev X 1 76 [v0, v1, v2, v3, .int x] st G = mc_ev X 1 78 [v0, v1, v2, v3, .int x] (.int x :: st) G) ∧
  (∀ (a0 : Int32) (a1 : Int32) (r : Nat) (ls st : List Value) (G : mc_H), st.length ≤ 4 → mc_cls G r = some 0 → mc_ev X 1 78 ls (.int a1 :: .int a0 :: .ref r :: st) G = (mc_ev X 2 0 [.ref r, .int a0, .int a1] [] G).bind (fun q => mc_ev X 1 81 ls (q.1.toList ++ st) q.2)) ∧
  (∀ (v0 v1 v2 v3 : Value) (x : Int32) (st : List Value) (G : mc_H), mc_ev X 1 81 [v0, v1, v2, v3, .int x] st G = mc_ev X 1 83 [v0, v1, v2, v3, .int x] (.int x :: st) G) ∧
  (∀ (v1 v2 v3 v4 : Value) (x : Nat) (st : List Value) (G : mc_H), mc_ev X 1 83 [.ref x, v1, v2, v3, v4] st G = mc_ev X 1 84 [.ref x, v1, v2, v3, v4] (.ref x :: st) G) ∧
  (∀ (r : Nat) (ls st : List Value) (G : mc_H), mc_ev X 1 84 ls (.ref r :: st) G = (mc_getf G r 0 1).bind (fun v => mc_ev X 1 87 ls (v :: st) G)) ∧
  (∀ (ls st : List Value) (G : mc_H), mc_ev X 1 87 ls st G = mc_ev X 1 88 ls (.int 1 :: st) G) ∧
  (∀ (x y : Int32) (ls st : List Value) (G : mc_H), mc_ev X 1 88 ls (.int y :: .int x :: st) G = mc_ev X 1 89 ls (.int (x - y) :: st) G) ∧
  (∀ (x y : Int32) (ls st : List Value) (G : mc_H), mc_ev X 1 89 ls (.int y :: .int x :: st) G = if x < y then mc_ev X 1 92 ls st G else mc_ev X 1 122 ls st G) ∧
  (∀ (v1 v2 v3 v4 : Value) (x : Nat) (st : List Value) (G : mc_H), mc_ev X 1 92 [.ref x, v1, v2, v3, v4] st G = mc_ev X 1 93 [.ref x, v1, v2, v3, v4] (.ref x :: st) G) ∧
  (∀ (v0 v1 v2 v4 : Value) (x : Int32) (st : List Value) (G : mc_H), mc_ev X 1 93 [v0, v1, v2, .int x, v4] st G = mc_ev X 1 94 [v0, v1, v2, .int x, v4] (.int x :: st) G) ∧
  (∀ (v1 v2 v3 v4 : Value) (x : Nat) (st : List Value) (G : mc_H), mc_ev X 1 94 [.ref x, v1, v2, v3, v4] st G = mc_ev X 1 95 [.ref x, v1, v2, v3, v4] (.ref x :: st) G) ∧
  (∀ (r : Nat) (ls st : List Value) (G : mc_H), mc_ev X 1 95 ls (.ref r :: st) G = (mc_getf G r 0 1).bind (fun v => mc_ev X 1 98 ls (v :: st) G)) ∧
  (∀ (x y : Int32) (ls st : List Value) (G : mc_H), mc_ev X 1 98 ls (.int y :: .int x :: st) G = mc_ev X 1 99 ls (.int (x * y) :: st) G) ∧
  (∀ (v0 v1 v2 v3 : Value) (x : Int32) (st : List Value) (G : mc_H), mc_ev X 1 99 [v0, v1, v2, v3, .int x] st G = mc_ev X 1 101 [v0, v1, v2, v3, .int x] (.int x :: st) G) ∧
  (∀ (x y : Int32) (ls st : List Value) (G : mc_H), mc_ev X 1 101 ls (.int y :: .int x :: st) G = mc_ev X 1 102 ls (.int (x + y) :: st) G) ∧
  (∀ (ls st : List Value) (G : mc_H), mc_ev X 1 102 ls st G = mc_ev X 1 103 ls (.int 1 :: st) G) ∧
  (∀ (v1 v2 v3 v4 : Value) (x : Nat) (st : List Value) (G : mc_H), mc_ev X 1 103 [.ref x, v1, v2, v3, v4] st G = mc_ev X 1 104 [.ref x, v1, v2, v3, v4] (.ref x :: st) G) ∧
  (∀ (v0 v1 v2 v4 : Value) (x : Int32) (st : List Value) (G : mc_H), mc_ev X 1 104 [v0, v1, v2, .int x, v4] st G = mc_ev X 1 105 [v0, v1, v2, .int x, v4] (.int x :: st) G) ∧
  (∀ (ls st : List Value) (G : mc_H), mc_ev X 1 105 ls st G = mc_ev X 1 106 ls (.int 1 :: st) G) ∧
  (∀ (x y : Int32) (ls st : List Value) (G : mc_H), mc_ev X 1 106 ls (.int y :: .int x :: st) G = mc_ev X 1 107 ls (.int (x - y) :: st) G) ∧
  (∀ (v0 v1 v2 v3 : Value) (x : Int32) (st : List Value) (G : mc_H), mc_ev X 1 107 [v0, v1, v2, v3, .int x] st G = mc_ev X 1 109 [v0, v1, v2, v3, .int x] (.int x :: st) G) ∧
  (∀ (a0 : Int32) (a1 : Int32) (r : Nat) (ls st : List Value) (G : mc_H), st.length ≤ 4 → mc_cls G r = some 0 → mc_ev X 1 109 ls (.int a1 :: .int a0 :: .ref r :: st) G = (mc_ev X 3 0 [.ref r, .int a0, .int a1, .null] [] G).bind (fun q => mc_ev X 1 112 ls (q.1.toList ++ st) q.2)) ∧
  (∀ (v1 v2 v3 v4 : Value) (x : Nat) (st : List Value) (G : mc_H), mc_ev X 1 112 [.ref x, v1, v2, v3, v4] st G = mc_ev X 1 113 [.ref x, v1, v2, v3, v4] (.ref x :: st) G) ∧
  (∀ (v0 v1 v2 v4 : Value) (x : Int32) (st : List Value) (G : mc_H), mc_ev X 1 113 [v0, v1, v2, .int x, v4] st G = mc_ev X 1 114 [v0, v1, v2, .int x, v4] (.int x :: st) G) ∧
  (∀ (v0 v1 v2 v3 : Value) (x : Int32) (st : List Value) (G : mc_H), mc_ev X 1 114 [v0, v1, v2, v3, .int x] st G = mc_ev X 1 116 [v0, v1, v2, v3, .int x] (.int x :: st) G) ∧
  (∀ (a0 : Int32) (a1 : Int32) (r : Nat) (ls st : List Value) (G : mc_H), st.length ≤ 4 → mc_cls G r = some 0 → mc_ev X 1 116 ls (.int a1 :: .int a0 :: .ref r :: st) G = (mc_ev X 3 0 [.ref r, .int a0, .int a1, .null] [] G).bind (fun q => mc_ev X 1 119 ls (q.1.toList ++ st) q.2)) ∧
  (∀ (a0 : Int32) (a1 : Int32) (a2 : Int32) (a3 : Int32) (r : Nat) (ls st : List Value) (G : mc_H), st.length ≤ 4 → mc_cls G r = some 0 → mc_ev X 1 119 ls (.int a3 :: .int a2 :: .int a1 :: .int a0 :: .ref r :: st) G = (mc_ev X 4 0 [.ref r, .int a0, .int a1, .int a2, .int a3] [] G).bind (fun q => mc_ev X 1 122 ls (q.1.toList ++ st) q.2)) ∧
  (∀ (v0 v1 v2 v3 : Value) (x : Int32) (st : List Value) (G : mc_H), mc_ev X 1 122 [v0, v1, v2, v3, .int x] st G = mc_ev X 1 125 [v0, v1, v2, v3, .int (x + 1)] st G) ∧
  (∀ (ls st : List Value) (G : mc_H), mc_ev X 1 125 ls st G = mc_ev X 1 65 ls st G) ∧
  (∀ (v0 v1 v2 v4 : Value) (x : Int32) (st : List Value) (G : mc_H), mc_ev X 1 128 [v0, v1, v2, .int x, v4] st G = mc_ev X 1 131 [v0, v1, v2, .int (x + 1), v4] st G) ∧
  (∀ (ls st : List Value) (G : mc_H), mc_ev X 1 131 ls st G = mc_ev X 1 54 ls st G) ∧
  (∀ (ls st : List Value) (G : mc_H), mc_ev X 1 134 ls st G = mc_ev X 1 135 ls (.int 0 :: st) G) ∧
  (∀ (v0 v1 v2 v3 v4 : Value) (x : Int32) (st : List Value) (G : mc_H), mc_ev X 1 135 [v0, v1, v2, v3, v4] (.int x :: st) G = mc_ev X 1 136 [v0, v1, v2, .int x, v4] st G) ∧
  (∀ (v1 v2 v3 v4 : Value) (x : Nat) (st : List Value) (G : mc_H), mc_ev X 1 137 [.ref x, v1, v2, v3, v4] st G = mc_ev X 1 138 [.ref x, v1, v2, v3, v4] (.ref x :: st) G) ∧
  (∀ (r : Nat) (ls st : List Value) (G : mc_H), mc_ev X 1 138 ls (.ref r :: st) G = (mc_getf G r 0 0).bind (fun v => mc_ev X 1 141 ls (v :: st) G)) ∧
  (∀ (ls st : List Value) (G : mc_H), mc_ev X 1 141 ls st G = mc_ev X 1 142 ls (.int 1 :: st) G) ∧
  (∀ (x y : Int32) (ls st : List Value) (G : mc_H), mc_ev X 1 142 ls (.int y :: .int x :: st) G = mc_ev X 1 143 ls (.int (x - y) :: st) G) ∧
  (∀ (x y : Int32) (ls st : List Value) (G : mc_H), mc_ev X 1 143 ls (.int y :: .int x :: st) G = if x < y then mc_ev X 1 146 ls st G else mc_ev X 1 203 ls st G) ∧
  (∀ (ls st : List Value) (G : mc_H), mc_ev X 1 146 ls st G = mc_ev X 1 147 ls (.int 0 :: st) G) ∧
  (∀ (v0 v1 v2 v3 v4 : Value) (x : Int32) (st : List Value) (G : mc_H), mc_ev X 1 147 [v0, v1, v2, v3, v4] (.int x :: st) G = mc_ev X 1 149 [v0, v1, v2, v3, .int x] st G) ∧
  (∀ (v1 v2 v3 v4 : Value) (x : Nat) (st : List Value) (G : mc_H), mc_ev X 1 151 [.ref x, v1, v2, v3, v4] st G = mc_ev X 1 152 [.ref x, v1, v2, v3, v4] (.ref x :: st) G) ∧
  (∀ (r : Nat) (ls st : List Value) (G : mc_H), mc_ev X 1 152 ls (.ref r :: st) G = (mc_getf G r 0 1).bind (fun v => mc_ev X 1 155 ls (v :: st) G)) ∧
  (∀ (x y : Int32) (ls st : List Value) (G : mc_H), mc_ev X 1 155 ls (.int y :: .int x :: st) G = if x < y then mc_ev X 1 158 ls st G else mc_ev X 1 197 ls st G) ∧
  (∀ (v1 v2 v3 v4 : Value) (x : Nat) (st : List Value) (G : mc_H), mc_ev X 1 158 [.ref x, v1, v2, v3, v4] st G = mc_ev X 1 159 [.ref x, v1, v2, v3, v4] (.ref x :: st) G) ∧
  (∀ (v0 v1 v2 v4 : Value) (x : Int32) (st : List Value) (G : mc_H), mc_ev X 1 159 [v0, v1, v2, .int x, v4] st G = mc_ev X 1 160 [v0, v1, v2, .int x, v4] (.int x :: st) G) ∧
  (∀ (v1 v2 v3 v4 : Value) (x : Nat) (st : List Value) (G : mc_H), mc_ev X 1 160 [.ref x, v1, v2, v3, v4] st G = mc_ev X 1 161 [.ref x, v1, v2, v3, v4] (.ref x :: st) G) ∧
  (∀ (r : Nat) (ls st : List Value) (G : mc_H), mc_ev X 1 161 ls (.ref r :: st) G = (mc_getf G r 0 1).bind (fun v => mc_ev X 1 164 ls (v :: st) G)) ∧
  (∀ (x y : Int32) (ls st : List Value) (G : mc_H), mc_ev X 1 164 ls (.int y :: .int x :: st) G = mc_ev X 1 165 ls (.int (x * y) :: st) G) ∧
  (∀ (v0 v1 v2 v3 : Value) (x : Int32) (st : List Value) (G : mc_H), mc_ev X 1 165 [v0, v1, v2, v3, .int x] st G = mc_ev X 1 167 [v0, v1, v2, v3, .int x] (.int x :: st) G) ∧
  (∀ (x y : Int32) (ls st : List Value) (G : mc_H), mc_ev X 1 167 ls (.int y :: .int x :: st) G = mc_ev X 1 168 ls (.int (x + y) :: st) G) ∧
  (∀ (v1 v2 v3 v4 : Value) (x : Nat) (st : List Value) (G : mc_H), mc_ev X 1 168 [.ref x, v1, v2, v3, v4] st G = mc_ev X 1 169 [.ref x, v1, v2, v3, v4] (.ref x :: st) G) ∧
  (∀ (r : Nat) (ls st : List Value) (G : mc_H), mc_ev X 1 169 ls (.ref r :: st) G = (mc_getf G r 0 1).bind (fun v => mc_ev X 1 172 ls (v :: st) G)) ∧
  (∀ (v1 v2 v3 v4 : Value) (x : Nat) (st : List Value) (G : mc_H), mc_ev X 1 172 [.ref x, v1, v2, v3, v4] st G = mc_ev X 1 173 [.ref x, v1, v2, v3, v4] (.ref x :: st) G) ∧
  (∀ (v0 v1 v2 v4 : Value) (x : Int32) (st : List Value) (G : mc_H), mc_ev X 1 173 [v0, v1, v2, .int x, v4] st G = mc_ev X 1 174 [v0, v1, v2, .int x, v4] (.int x :: st) G) ∧
  (∀ (v0 v1 v2 v3 : Value) (x : Int32) (st : List Value) (G : mc_H), mc_ev X 1 174 [v0, v1, v2, v3, .int x] st G = mc_ev X 1 176 [v0, v1, v2, v3, .int x] (.int x :: st) G) ∧
  (∀ (ls st : List Value) (G : mc_H), mc_ev X 1 176 ls st G = mc_ev X 1 177 ls (.int 1 :: st) G) ∧
  (∀ (x y : Int32) (ls st : List Value) (G : mc_H), mc_ev X 1 177 ls (.int y :: .int x :: st) G = mc_ev X 1 178 ls (.int (x - y) :: st) G) ∧
  (∀ (a0 : Int32) (a1 : Int32) (r : Nat) (ls st : List Value) (G : mc_H), st.length ≤ 4 → mc_cls G r = some 0 → mc_ev X 1 178 ls (.int a1 :: .int a0 :: .ref r :: st) G = (mc_ev X 3 0 [.ref r, .int a0, .int a1, .null] [] G).bind (fun q => mc_ev X 1 181 ls (q.1.toList ++ st) q.2)) ∧
  (∀ (v1 v2 v3 v4 : Value) (x : Nat) (st : List Value) (G : mc_H), mc_ev X 1 181 [.ref x, v1, v2, v3, v4] st G = mc_ev X 1 182 [.ref x, v1, v2, v3, v4] (.ref x :: st) G) ∧
  (∀ (v0 v1 v2 v4 : Value) (x : Int32) (st : List Value) (G : mc_H), mc_ev X 1 182 [v0, v1, v2, .int x, v4] st G = mc_ev X 1 183 [v0, v1, v2, .int x, v4] (.int x :: st) G) ∧
  (∀ (v0 v1 v2 v3 : Value) (x : Int32) (st : List Value) (G : mc_H), mc_ev X 1 183 [v0, v1, v2, v3, .int x] st G = mc_ev X 1 185 [v0, v1, v2, v3, .int x] (.int x :: st) G) ∧
  (∀ (a0 : Int32) (a1 : Int32) (r : Nat) (ls st : List Value) (G : mc_H), st.length ≤ 4 → mc_cls G r = some 0 → mc_ev X 1 185 ls (.int a1 :: .int a0 :: .ref r :: st) G = (mc_ev X 3 0 [.ref r, .int a0, .int a1, .null] [] G).bind (fun q => mc_ev X 1 188 ls (q.1.toList ++ st) q.2)) ∧
  (∀ (a0 : Int32) (a1 : Int32) (a2 : Int32) (a3 : Int32) (r : Nat) (ls st : List Value) (G : mc_H), st.length ≤ 4 → mc_cls G r = some 0 → mc_ev X 1 188 ls (.int a3 :: .int a2 :: .int a1 :: .int a0 :: .ref r :: st) G = (mc_ev X 4 0 [.ref r, .int a0, .int a1, .int a2, .int a3] [] G).bind (fun q => mc_ev X 1 191 ls (q.1.toList ++ st) q.2)) ∧
  (∀ (v0 v1 v2 v3 : Value) (x : Int32) (st : List Value) (G : mc_H), mc_ev X 1 191 [v0, v1, v2, v3, .int x] st G = mc_ev X 1 194 [v0, v1, v2, v3, .int (x + 1)] st G) ∧
  (∀ (ls st : List Value) (G : mc_H), mc_ev X 1 194 ls st G = mc_ev X 1 149 ls st G) ∧
  (∀ (v0 v1 v2 v4 : Value) (x : Int32) (st : List Value) (G : mc_H), mc_ev X 1 197 [v0, v1, v2, .int x, v4] st G = mc_ev X 1 200 [v0, v1, v2, .int (x + 1), v4] st G) ∧
  (∀ (ls st : List Value) (G : mc_H), mc_ev X 1 200 ls st G = mc_ev X 1 136 ls st G) ∧
  (∀ (ls : List Value) (G : mc_H), mc_ev X 1 203 ls [] G = some (none, G)) := ⟨fun v1 v2 v3 v4 x st G => ev_aload_n rfl rfl,
  fun v0 v2 v3 v4 x st G => ev_iload_n rfl rfl,
  fun v r ls st G => ev_putfield rfl,
  fun v1 v2 v3 v4 x st G => ev_aload_n rfl rfl,
  fun v0 v1 v3 v4 x st G => ev_iload_n rfl rfl,
  fun v r ls st G => ev_putfield rfl,
  fun v1 v2 v3 v4 x st G => ev_aload_n rfl rfl,
  fun v1 v2 v3 v4 x st G => ev_aload_n rfl rfl,
  fun r ls st G => ev_getfield rfl,
  fun v1 v2 v3 v4 x st G => ev_aload_n rfl rfl,
  fun r ls st G => ev_getfield rfl,
  fun x y ls st G => ev_imul rfl,
  fun v r ls st G => ev_putfield rfl,
  fun v1 v2 v3 v4 x st G => ev_aload_n rfl rfl,
  fun v1 v2 v3 v4 x st G => ev_aload_n rfl rfl,
  fun r ls st G => ev_getfield rfl,
  fun ls st G => ev_iconst rfl rfl,
  fun x y ls st G => ev_isub rfl,
  fun v1 v2 v3 v4 x st G => ev_aload_n rfl rfl,
  fun r ls st G => ev_getfield rfl,
  fun ls st G => ev_iconst rfl rfl,
  fun x y ls st G => ev_isub rfl,
  fun x y ls st G => ev_imul rfl,
  fun ls st G => ev_iconst rfl rfl,
  fun x y ls st G => ev_iadd rfl,
  fun v r ls st G => ev_putfield rfl,
  fun v1 v2 v3 v4 x st G => ev_aload_n rfl rfl,
  fun ls st G => ev_iconst rfl rfl,
  fun v r ls st G => ev_putfield rfl,
  fun v1 v2 v3 v4 x st G => ev_aload_n rfl rfl,
  fun ls st G => ev_iconst rfl rfl,
  fun v r ls st G => ev_putfield rfl,
  fun ls st G => ev_iconst rfl rfl,
  fun v0 v1 v2 v3 v4 x st G => ev_istore_n (X := X) (k := 1) (pc := 53) (ls := [v0, v1, v2, v3, v4]) (st := st) (G := G) (j := 3) (x := x) rfl (Nat.le_of_ble_eq_true rfl),
  fun v1 v2 v3 v4 x st G => ev_aload_n rfl rfl,
  fun r ls st G => ev_getfield rfl,
  fun x y ls st G => ev_br rfl rfl,
  fun ls st G => ev_iconst rfl rfl,
  fun v0 v1 v2 v3 v4 x st G => ev_istore (X := X) (k := 1) (pc := 63) (ls := [v0, v1, v2, v3, v4]) (st := st) (G := G) (j := 4) (x := x) rfl (Nat.le_of_ble_eq_true rfl),
  fun v1 v2 v3 v4 x st G => ev_aload_n rfl rfl,
  fun r ls st G => ev_getfield rfl,
  fun x y ls st G => ev_br rfl rfl,
  fun v1 v2 v3 v4 x st G => ev_aload_n rfl rfl,
  fun v0 v1 v2 v4 x st G => ev_iload_n rfl rfl,
  fun v0 v1 v2 v3 x st G => ev_iload rfl rfl,
  fun a0 a1 r ls st G hr hG => ev_virt (As := [.int a0, .int a1]) rfl rfl rfl rfl rfl rfl hr hG,
  fun v0 v1 v2 v3 x st G => ev_iload rfl rfl,
  fun v1 v2 v3 v4 x st G => ev_aload_n rfl rfl,
  fun r ls st G => ev_getfield rfl,
  fun ls st G => ev_iconst rfl rfl,
  fun x y ls st G => ev_isub rfl,
  fun x y ls st G => ev_br rfl rfl,
  fun v1 v2 v3 v4 x st G => ev_aload_n rfl rfl,
  fun v0 v1 v2 v4 x st G => ev_iload_n rfl rfl,
  fun v1 v2 v3 v4 x st G => ev_aload_n rfl rfl,
  fun r ls st G => ev_getfield rfl,
  fun x y ls st G => ev_imul rfl,
  fun v0 v1 v2 v3 x st G => ev_iload rfl rfl,
  fun x y ls st G => ev_iadd rfl,
  fun ls st G => ev_iconst rfl rfl,
  fun v1 v2 v3 v4 x st G => ev_aload_n rfl rfl,
  fun v0 v1 v2 v4 x st G => ev_iload_n rfl rfl,
  fun ls st G => ev_iconst rfl rfl,
  fun x y ls st G => ev_isub rfl,
  fun v0 v1 v2 v3 x st G => ev_iload rfl rfl,
  fun a0 a1 r ls st G hr hG => ev_virt (As := [.int a0, .int a1]) rfl rfl rfl rfl rfl rfl hr hG,
  fun v1 v2 v3 v4 x st G => ev_aload_n rfl rfl,
  fun v0 v1 v2 v4 x st G => ev_iload_n rfl rfl,
  fun v0 v1 v2 v3 x st G => ev_iload rfl rfl,
  fun a0 a1 r ls st G hr hG => ev_virt (As := [.int a0, .int a1]) rfl rfl rfl rfl rfl rfl hr hG,
  fun a0 a1 a2 a3 r ls st G hr hG => ev_virt (As := [.int a0, .int a1, .int a2, .int a3]) rfl rfl rfl rfl rfl rfl hr hG,
  fun v0 v1 v2 v3 x st G => ev_iinc (X := X) (k := 1) (pc := 122) (ls := [v0, v1, v2, v3, .int x]) (st := st) (G := G) (j := 4) (n := 1) (x := x) (v := 1) rfl rfl rfl,
  fun ls st G => ev_goto rfl rfl,
  fun v0 v1 v2 v4 x st G => ev_iinc (X := X) (k := 1) (pc := 128) (ls := [v0, v1, v2, .int x, v4]) (st := st) (G := G) (j := 3) (n := 1) (x := x) (v := 1) rfl rfl rfl,
  fun ls st G => ev_goto rfl rfl,
  fun ls st G => ev_iconst rfl rfl,
  fun v0 v1 v2 v3 v4 x st G => ev_istore_n (X := X) (k := 1) (pc := 135) (ls := [v0, v1, v2, v3, v4]) (st := st) (G := G) (j := 3) (x := x) rfl (Nat.le_of_ble_eq_true rfl),
  fun v1 v2 v3 v4 x st G => ev_aload_n rfl rfl,
  fun r ls st G => ev_getfield rfl,
  fun ls st G => ev_iconst rfl rfl,
  fun x y ls st G => ev_isub rfl,
  fun x y ls st G => ev_br rfl rfl,
  fun ls st G => ev_iconst rfl rfl,
  fun v0 v1 v2 v3 v4 x st G => ev_istore (X := X) (k := 1) (pc := 147) (ls := [v0, v1, v2, v3, v4]) (st := st) (G := G) (j := 4) (x := x) rfl (Nat.le_of_ble_eq_true rfl),
  fun v1 v2 v3 v4 x st G => ev_aload_n rfl rfl,
  fun r ls st G => ev_getfield rfl,
  fun x y ls st G => ev_br rfl rfl,
  fun v1 v2 v3 v4 x st G => ev_aload_n rfl rfl,
  fun v0 v1 v2 v4 x st G => ev_iload_n rfl rfl,
  fun v1 v2 v3 v4 x st G => ev_aload_n rfl rfl,
  fun r ls st G => ev_getfield rfl,
  fun x y ls st G => ev_imul rfl,
  fun v0 v1 v2 v3 x st G => ev_iload rfl rfl,
  fun x y ls st G => ev_iadd rfl,
  fun v1 v2 v3 v4 x st G => ev_aload_n rfl rfl,
  fun r ls st G => ev_getfield rfl,
  fun v1 v2 v3 v4 x st G => ev_aload_n rfl rfl,
  fun v0 v1 v2 v4 x st G => ev_iload_n rfl rfl,
  fun v0 v1 v2 v3 x st G => ev_iload rfl rfl,
  fun ls st G => ev_iconst rfl rfl,
  fun x y ls st G => ev_isub rfl,
  fun a0 a1 r ls st G hr hG => ev_virt (As := [.int a0, .int a1]) rfl rfl rfl rfl rfl rfl hr hG,
  fun v1 v2 v3 v4 x st G => ev_aload_n rfl rfl,
  fun v0 v1 v2 v4 x st G => ev_iload_n rfl rfl,
  fun v0 v1 v2 v3 x st G => ev_iload rfl rfl,
  fun a0 a1 r ls st G hr hG => ev_virt (As := [.int a0, .int a1]) rfl rfl rfl rfl rfl rfl hr hG,
  fun a0 a1 a2 a3 r ls st G hr hG => ev_virt (As := [.int a0, .int a1, .int a2, .int a3]) rfl rfl rfl rfl rfl rfl hr hG,
  fun v0 v1 v2 v3 x st G => ev_iinc (X := X) (k := 1) (pc := 191) (ls := [v0, v1, v2, v3, .int x]) (st := st) (G := G) (j := 4) (n := 1) (x := x) (v := 1) rfl rfl rfl,
  fun ls st G => ev_goto rfl rfl,
  fun v0 v1 v2 v4 x st G => ev_iinc (X := X) (k := 1) (pc := 197) (ls := [v0, v1, v2, .int x, v4]) (st := st) (G := G) (j := 3) (n := 1) (x := x) (v := 1) rfl rfl rfl,
  fun ls st G => ev_goto rfl rfl,
  fun ls G => ev_return rfl rfl⟩
theorem e_2 {X : mc_X} : (∀ (v0 v2 : Value) (x : Int32) (st : List Value) (G : mc_H), mc_ev X 2 0 [v0, .int x, v2] st G = mc_ev X 2 1 [v0, .int x, v2] (.int x :: st) G) ∧
  (∀ (x : Int32) (ls st : List Value) (G : mc_H), mc_ev X 2 1 ls (.int x :: st) G = if x = 0 then mc_ev X 2 28 ls st G else mc_ev X 2 4 ls st G) ∧
  (∀ (v0 v2 : Value) (x : Int32) (st : List Value) (G : mc_H), mc_ev X 2 4 [v0, .int x, v2] st G = mc_ev X 2 5 [v0, .int x, v2] (.int x :: st) G) ∧
  (∀ (v1 v2 : Value) (x : Nat) (st : List Value) (G : mc_H), mc_ev X 2 5 [.ref x, v1, v2] st G = mc_ev X 2 6 [.ref x, v1, v2] (.ref x :: st) G) ∧
  (∀ (r : Nat) (ls st : List Value) (G : mc_H), mc_ev X 2 6 ls (.ref r :: st) G = (mc_getf G r 0 0).bind (fun v => mc_ev X 2 9 ls (v :: st) G)) ∧
  (∀ (ls st : List Value) (G : mc_H), mc_ev X 2 9 ls st G = mc_ev X 2 10 ls (.int 1 :: st) G) ∧
  (∀ (x y : Int32) (ls st : List Value) (G : mc_H), mc_ev X 2 10 ls (.int y :: .int x :: st) G = mc_ev X 2 11 ls (.int (x - y) :: st) G) ∧
  (∀ (x y : Int32) (ls st : List Value) (G : mc_H), mc_ev X 2 11 ls (.int y :: .int x :: st) G = if x = y then mc_ev X 2 28 ls st G else mc_ev X 2 14 ls st G) ∧
  (∀ (v0 v1 : Value) (x : Int32) (st : List Value) (G : mc_H), mc_ev X 2 14 [v0, v1, .int x] st G = mc_ev X 2 15 [v0, v1, .int x] (.int x :: st) G) ∧
  (∀ (x : Int32) (ls st : List Value) (G : mc_H), mc_ev X 2 15 ls (.int x :: st) G = if x = 0 then mc_ev X 2 28 ls st G else mc_ev X 2 18 ls st G) ∧
  (∀ (v0 v1 : Value) (x : Int32) (st : List Value) (G : mc_H), mc_ev X 2 18 [v0, v1, .int x] st G = mc_ev X 2 19 [v0, v1, .int x] (.int x :: st) G) ∧
  (∀ (v1 v2 : Value) (x : Nat) (st : List Value) (G : mc_H), mc_ev X 2 19 [.ref x, v1, v2] st G = mc_ev X 2 20 [.ref x, v1, v2] (.ref x :: st) G) ∧
  (∀ (r : Nat) (ls st : List Value) (G : mc_H), mc_ev X 2 20 ls (.ref r :: st) G = (mc_getf G r 0 1).bind (fun v => mc_ev X 2 23 ls (v :: st) G)) ∧
  (∀ (ls st : List Value) (G : mc_H), mc_ev X 2 23 ls st G = mc_ev X 2 24 ls (.int 1 :: st) G) ∧
  (∀ (x y : Int32) (ls st : List Value) (G : mc_H), mc_ev X 2 24 ls (.int y :: .int x :: st) G = mc_ev X 2 25 ls (.int (x - y) :: st) G) ∧
  (∀ (x y : Int32) (ls st : List Value) (G : mc_H), mc_ev X 2 25 ls (.int y :: .int x :: st) G = if x = y then mc_ev X 2 28 ls st G else mc_ev X 2 47 ls st G) ∧
  (∀ (v1 v2 : Value) (x : Nat) (st : List Value) (G : mc_H), mc_ev X 2 28 [.ref x, v1, v2] st G = mc_ev X 2 29 [.ref x, v1, v2] (.ref x :: st) G) ∧
  (∀ (x : Nat) (ls st : List Value) (G : mc_H), mc_ev X 2 29 ls (.ref x :: st) G = mc_ev X 2 30 ls (.ref x :: .ref x :: st) G) ∧
  (∀ (r : Nat) (ls st : List Value) (G : mc_H), mc_ev X 2 30 ls (.ref r :: st) G = (mc_getf G r 0 5).bind (fun v => mc_ev X 2 33 ls (v :: st) G)) ∧
  (∀ (ls st : List Value) (G : mc_H), mc_ev X 2 33 ls st G = mc_ev X 2 34 ls (.int 1 :: st) G) ∧
  (∀ (v0 v2 : Value) (x : Int32) (st : List Value) (G : mc_H), mc_ev X 2 34 [v0, .int x, v2] st G = mc_ev X 2 35 [v0, .int x, v2] (.int x :: st) G) ∧
  (∀ (v1 v2 : Value) (x : Nat) (st : List Value) (G : mc_H), mc_ev X 2 35 [.ref x, v1, v2] st G = mc_ev X 2 36 [.ref x, v1, v2] (.ref x :: st) G) ∧
  (∀ (r : Nat) (ls st : List Value) (G : mc_H), mc_ev X 2 36 ls (.ref r :: st) G = (mc_getf G r 0 1).bind (fun v => mc_ev X 2 39 ls (v :: st) G)) ∧
  (∀ (x y : Int32) (ls st : List Value) (G : mc_H), mc_ev X 2 39 ls (.int y :: .int x :: st) G = mc_ev X 2 40 ls (.int (x * y) :: st) G) ∧
  (∀ (v0 v1 : Value) (x : Int32) (st : List Value) (G : mc_H), mc_ev X 2 40 [v0, v1, .int x] st G = mc_ev X 2 41 [v0, v1, .int x] (.int x :: st) G) ∧
  (∀ (x y : Int32) (ls st : List Value) (G : mc_H), mc_ev X 2 41 ls (.int y :: .int x :: st) G = mc_ev X 2 42 ls (.int (x + y) :: st) G) ∧
  (∀ (x y : Int32) (ls st : List Value) (G : mc_H), mc_ev X 2 42 ls (.int y :: .int x :: st) G = mc_ev X 2 43 ls (.int (x <<< (y &&& 31)) :: st) G) ∧
  (∀ (x y : Int32) (ls st : List Value) (G : mc_H), mc_ev X 2 43 ls (.int y :: .int x :: st) G = mc_ev X 2 44 ls (.int (x ||| y) :: st) G) ∧
  (∀ (v : Value) (r : Nat) (ls st : List Value) (G : mc_H), mc_ev X 2 44 ls (v :: .ref r :: st) G = (mc_setf G r 0 5 v).bind (fun G' => mc_ev X 2 47 ls st G')) ∧
  (∀ (ls : List Value) (G : mc_H), mc_ev X 2 47 ls [] G = some (none, G)) := ⟨fun v0 v2 x st G => ev_iload_n rfl rfl,
  fun x ls st G => ev_br rfl rfl,
  fun v0 v2 x st G => ev_iload_n rfl rfl,
  fun v1 v2 x st G => ev_aload_n rfl rfl,
  fun r ls st G => ev_getfield rfl,
  fun ls st G => ev_iconst rfl rfl,
  fun x y ls st G => ev_isub rfl,
  fun x y ls st G => ev_br rfl rfl,
  fun v0 v1 x st G => ev_iload_n rfl rfl,
  fun x ls st G => ev_br rfl rfl,
  fun v0 v1 x st G => ev_iload_n rfl rfl,
  fun v1 v2 x st G => ev_aload_n rfl rfl,
  fun r ls st G => ev_getfield rfl,
  fun ls st G => ev_iconst rfl rfl,
  fun x y ls st G => ev_isub rfl,
  fun x y ls st G => ev_br rfl rfl,
  fun v1 v2 x st G => ev_aload_n rfl rfl,
  fun x ls st G => ev_dup rfl,
  fun r ls st G => ev_getfield rfl,
  fun ls st G => ev_iconst rfl rfl,
  fun v0 v2 x st G => ev_iload_n rfl rfl,
  fun v1 v2 x st G => ev_aload_n rfl rfl,
  fun r ls st G => ev_getfield rfl,
  fun x y ls st G => ev_imul rfl,
  fun v0 v1 x st G => ev_iload_n rfl rfl,
  fun x y ls st G => ev_iadd rfl,
  fun x y ls st G => ev_ishl rfl,
  fun x y ls st G => ev_ior rfl,
  fun v r ls st G => ev_putfield rfl,
  fun ls G => ev_return rfl rfl⟩
theorem e_3 {X : mc_X} : (∀ (v0 v2 v3 : Value) (x : Int32) (st : List Value) (G : mc_H), mc_ev X 3 0 [v0, .int x, v2, v3] st G = mc_ev X 3 1 [v0, .int x, v2, v3] (.int x :: st) G) ∧
  (∀ (x : Int32) (ls st : List Value) (G : mc_H), mc_ev X 3 1 ls (.int x :: st) G = if x < 0 then mc_ev X 3 32 ls st G else mc_ev X 3 4 ls st G) ∧
  (∀ (v0 v2 v3 : Value) (x : Int32) (st : List Value) (G : mc_H), mc_ev X 3 4 [v0, .int x, v2, v3] st G = mc_ev X 3 5 [v0, .int x, v2, v3] (.int x :: st) G) ∧
  (∀ (v1 v2 v3 : Value) (x : Nat) (st : List Value) (G : mc_H), mc_ev X 3 5 [.ref x, v1, v2, v3] st G = mc_ev X 3 6 [.ref x, v1, v2, v3] (.ref x :: st) G) ∧
  (∀ (r : Nat) (ls st : List Value) (G : mc_H), mc_ev X 3 6 ls (.ref r :: st) G = (mc_getf G r 0 0).bind (fun v => mc_ev X 3 9 ls (v :: st) G)) ∧
  (∀ (ls st : List Value) (G : mc_H), mc_ev X 3 9 ls st G = mc_ev X 3 10 ls (.int 1 :: st) G) ∧
  (∀ (x y : Int32) (ls st : List Value) (G : mc_H), mc_ev X 3 10 ls (.int y :: .int x :: st) G = mc_ev X 3 11 ls (.int (x - y) :: st) G) ∧
  (∀ (x y : Int32) (ls st : List Value) (G : mc_H), mc_ev X 3 11 ls (.int y :: .int x :: st) G = if x < y then mc_ev X 3 14 ls st G else mc_ev X 3 32 ls st G) ∧
  (∀ (v0 v1 v3 : Value) (x : Int32) (st : List Value) (G : mc_H), mc_ev X 3 14 [v0, v1, .int x, v3] st G = mc_ev X 3 15 [v0, v1, .int x, v3] (.int x :: st) G) ∧
  (∀ (x : Int32) (ls st : List Value) (G : mc_H), mc_ev X 3 15 ls (.int x :: st) G = if x < 0 then mc_ev X 3 32 ls st G else mc_ev X 3 18 ls st G) ∧
  (∀ (v0 v1 v3 : Value) (x : Int32) (st : List Value) (G : mc_H), mc_ev X 3 18 [v0, v1, .int x, v3] st G = mc_ev X 3 19 [v0, v1, .int x, v3] (.int x :: st) G) ∧
  (∀ (v1 v2 v3 : Value) (x : Nat) (st : List Value) (G : mc_H), mc_ev X 3 19 [.ref x, v1, v2, v3] st G = mc_ev X 3 20 [.ref x, v1, v2, v3] (.ref x :: st) G) ∧
  (∀ (r : Nat) (ls st : List Value) (G : mc_H), mc_ev X 3 20 ls (.ref r :: st) G = (mc_getf G r 0 1).bind (fun v => mc_ev X 3 23 ls (v :: st) G)) ∧
  (∀ (ls st : List Value) (G : mc_H), mc_ev X 3 23 ls st G = mc_ev X 3 24 ls (.int 1 :: st) G) ∧
  (∀ (x y : Int32) (ls st : List Value) (G : mc_H), mc_ev X 3 24 ls (.int y :: .int x :: st) G = mc_ev X 3 25 ls (.int (x - y) :: st) G) ∧
  (∀ (x y : Int32) (ls st : List Value) (G : mc_H), mc_ev X 3 25 ls (.int y :: .int x :: st) G = if x < y then mc_ev X 3 28 ls st G else mc_ev X 3 32 ls st G) ∧
  (∀ (ls st : List Value) (G : mc_H), mc_ev X 3 28 ls st G = mc_ev X 3 29 ls (.int 1 :: st) G) ∧
  (∀ (ls st : List Value) (G : mc_H), mc_ev X 3 29 ls st G = mc_ev X 3 33 ls st G) ∧
  (∀ (ls st : List Value) (G : mc_H), mc_ev X 3 32 ls st G = mc_ev X 3 33 ls (.int 0 :: st) G) ∧
  (∀ (v0 v1 v2 v3 : Value) (x : Int32) (st : List Value) (G : mc_H), mc_ev X 3 33 [v0, v1, v2, v3] (.int x :: st) G = mc_ev X 3 34 [v0, v1, v2, .int x] st G) ∧
  (∀ (v0 v1 v2 : Value) (x : Int32) (st : List Value) (G : mc_H), mc_ev X 3 34 [v0, v1, v2, .int x] st G = mc_ev X 3 35 [v0, v1, v2, .int x] (.int x :: st) G) ∧
  (∀ (x : Int32) (ls st : List Value) (G : mc_H), mc_ev X 3 35 ls (.int x :: st) G = if x = 0 then mc_ev X 3 51 ls st G else mc_ev X 3 38 ls st G) ∧
  (∀ (v0 v2 v3 : Value) (x : Int32) (st : List Value) (G : mc_H), mc_ev X 3 38 [v0, .int x, v2, v3] st G = mc_ev X 3 39 [v0, .int x, v2, v3] (.int x :: st) G) ∧
  (∀ (v1 v2 v3 : Value) (x : Nat) (st : List Value) (G : mc_H), mc_ev X 3 39 [.ref x, v1, v2, v3] st G = mc_ev X 3 40 [.ref x, v1, v2, v3] (.ref x :: st) G) ∧
  (∀ (r : Nat) (ls st : List Value) (G : mc_H), mc_ev X 3 40 ls (.ref r :: st) G = (mc_getf G r 0 1).bind (fun v => mc_ev X 3 43 ls (v :: st) G)) ∧
  (∀ (ls st : List Value) (G : mc_H), mc_ev X 3 43 ls st G = mc_ev X 3 44 ls (.int 1 :: st) G) ∧
  (∀ (x y : Int32) (ls st : List Value) (G : mc_H), mc_ev X 3 44 ls (.int y :: .int x :: st) G = mc_ev X 3 45 ls (.int (x - y) :: st) G) ∧
  (∀ (x y : Int32) (ls st : List Value) (G : mc_H), mc_ev X 3 45 ls (.int y :: .int x :: st) G = mc_ev X 3 46 ls (.int (x * y) :: st) G) ∧
  (∀ (v0 v1 v3 : Value) (x : Int32) (st : List Value) (G : mc_H), mc_ev X 3 46 [v0, v1, .int x, v3] st G = mc_ev X 3 47 [v0, v1, .int x, v3] (.int x :: st) G) ∧
  (∀ (x y : Int32) (ls st : List Value) (G : mc_H), mc_ev X 3 47 ls (.int y :: .int x :: st) G = mc_ev X 3 48 ls (.int (x + y) :: st) G) ∧
  (∀ (ls st : List Value) (G : mc_H), mc_ev X 3 48 ls st G = mc_ev X 3 57 ls st G) ∧
  (∀ (v1 v2 v3 : Value) (x : Nat) (st : List Value) (G : mc_H), mc_ev X 3 51 [.ref x, v1, v2, v3] st G = mc_ev X 3 52 [.ref x, v1, v2, v3] (.ref x :: st) G) ∧
  (∀ (r : Nat) (ls st : List Value) (G : mc_H), mc_ev X 3 52 ls (.ref r :: st) G = (mc_getf G r 0 4).bind (fun v => mc_ev X 3 55 ls (v :: st) G)) ∧
  (∀ (ls st : List Value) (G : mc_H), mc_ev X 3 55 ls st G = mc_ev X 3 56 ls (.int 1 :: st) G) ∧
  (∀ (x y : Int32) (ls st : List Value) (G : mc_H), mc_ev X 3 56 ls (.int y :: .int x :: st) G = mc_ev X 3 57 ls (.int (x - y) :: st) G) ∧
  (∀ (v : Int32) (ls : List Value) (G : mc_H), mc_ev X 3 57 ls [.int v] G = some (some (.int v), G)) := ⟨fun v0 v2 v3 x st G => ev_iload_n rfl rfl,
  fun x ls st G => ev_br rfl rfl,
  fun v0 v2 v3 x st G => ev_iload_n rfl rfl,
  fun v1 v2 v3 x st G => ev_aload_n rfl rfl,
  fun r ls st G => ev_getfield rfl,
  fun ls st G => ev_iconst rfl rfl,
  fun x y ls st G => ev_isub rfl,
  fun x y ls st G => ev_br rfl rfl,
  fun v0 v1 v3 x st G => ev_iload_n rfl rfl,
  fun x ls st G => ev_br rfl rfl,
  fun v0 v1 v3 x st G => ev_iload_n rfl rfl,
  fun v1 v2 v3 x st G => ev_aload_n rfl rfl,
  fun r ls st G => ev_getfield rfl,
  fun ls st G => ev_iconst rfl rfl,
  fun x y ls st G => ev_isub rfl,
  fun x y ls st G => ev_br rfl rfl,
  fun ls st G => ev_iconst rfl rfl,
  fun ls st G => ev_goto rfl rfl,
  fun ls st G => ev_iconst rfl rfl,
  fun v0 v1 v2 v3 x st G => ev_istore_n (X := X) (k := 3) (pc := 33) (ls := [v0, v1, v2, v3]) (st := st) (G := G) (j := 3) (x := x) rfl (Nat.le_of_ble_eq_true rfl),
  fun v0 v1 v2 x st G => ev_iload_n rfl rfl,
  fun x ls st G => ev_br rfl rfl,
  fun v0 v2 v3 x st G => ev_iload_n rfl rfl,
  fun v1 v2 v3 x st G => ev_aload_n rfl rfl,
  fun r ls st G => ev_getfield rfl,
  fun ls st G => ev_iconst rfl rfl,
  fun x y ls st G => ev_isub rfl,
  fun x y ls st G => ev_imul rfl,
  fun v0 v1 v3 x st G => ev_iload_n rfl rfl,
  fun x y ls st G => ev_iadd rfl,
  fun ls st G => ev_goto rfl rfl,
  fun v1 v2 v3 x st G => ev_aload_n rfl rfl,
  fun r ls st G => ev_getfield rfl,
  fun ls st G => ev_iconst rfl rfl,
  fun x y ls st G => ev_isub rfl,
  fun v ls G => ev_ireturn rfl rfl⟩
theorem e_4 {X : mc_X} : (∀ (v1 v2 v3 v4 : Value) (x : Nat) (st : List Value) (G : mc_H), mc_ev X 4 0 [.ref x, v1, v2, v3, v4] st G = mc_ev X 4 1 [.ref x, v1, v2, v3, v4] (.ref x :: st) G) ∧
  (∀ (r : Nat) (ls st : List Value) (G : mc_H), mc_ev X 4 1 ls (.ref r :: st) G = (mc_getf G r 0 3).bind (fun v => mc_ev X 4 4 ls (v :: st) G)) ∧
  (∀ (ls st : List Value) (G : mc_H), mc_ev X 4 4 ls st G = mc_ev X 4 6 ls (.int 17 :: st) G) ∧
  (∀ (x y : Int32) (ls st : List Value) (G : mc_H), mc_ev X 4 6 ls (.int y :: .int x :: st) G = if x < y then mc_ev X 4 9 ls st G else mc_ev X 4 71 ls st G) ∧
  (∀ (v1 v2 v3 v4 : Value) (x : Nat) (st : List Value) (G : mc_H), mc_ev X 4 9 [.ref x, v1, v2, v3, v4] st G = mc_ev X 4 10 [.ref x, v1, v2, v3, v4] (.ref x :: st) G) ∧
  (∀ (r : Nat) (ls st : List Value) (G : mc_H), mc_ev X 4 10 ls (.ref r :: st) G = (mc_getf G r 0 6).bind (fun v => mc_ev X 4 13 ls (v :: st) G)) ∧
  (∀ (v1 v2 v3 v4 : Value) (x : Nat) (st : List Value) (G : mc_H), mc_ev X 4 13 [.ref x, v1, v2, v3, v4] st G = mc_ev X 4 14 [.ref x, v1, v2, v3, v4] (.ref x :: st) G) ∧
  (∀ (r : Nat) (ls st : List Value) (G : mc_H), mc_ev X 4 14 ls (.ref r :: st) G = (mc_getf G r 0 3).bind (fun v => mc_ev X 4 17 ls (v :: st) G)) ∧
  (∀ (v0 v2 v3 v4 : Value) (x : Int32) (st : List Value) (G : mc_H), mc_ev X 4 17 [v0, .int x, v2, v3, v4] st G = mc_ev X 4 18 [v0, .int x, v2, v3, v4] (.int x :: st) G) ∧
  (∀ (x i : Int32) (r : Nat) (ls st : List Value) (G : mc_H), mc_ev X 4 18 ls (.int x :: .int i :: .ref r :: st) G = (mc_setA G 0 r i x).bind (fun G' => mc_ev X 4 19 ls st G')) ∧
  (∀ (v1 v2 v3 v4 : Value) (x : Nat) (st : List Value) (G : mc_H), mc_ev X 4 19 [.ref x, v1, v2, v3, v4] st G = mc_ev X 4 20 [.ref x, v1, v2, v3, v4] (.ref x :: st) G) ∧
  (∀ (r : Nat) (ls st : List Value) (G : mc_H), mc_ev X 4 20 ls (.ref r :: st) G = (mc_getf G r 0 7).bind (fun v => mc_ev X 4 23 ls (v :: st) G)) ∧
  (∀ (v1 v2 v3 v4 : Value) (x : Nat) (st : List Value) (G : mc_H), mc_ev X 4 23 [.ref x, v1, v2, v3, v4] st G = mc_ev X 4 24 [.ref x, v1, v2, v3, v4] (.ref x :: st) G) ∧
  (∀ (r : Nat) (ls st : List Value) (G : mc_H), mc_ev X 4 24 ls (.ref r :: st) G = (mc_getf G r 0 3).bind (fun v => mc_ev X 4 27 ls (v :: st) G)) ∧
  (∀ (v0 v2 v3 v4 : Value) (x : Int32) (st : List Value) (G : mc_H), mc_ev X 4 27 [v0, .int x, v2, v3, v4] st G = mc_ev X 4 28 [v0, .int x, v2, v3, v4] (.int x :: st) G) ∧
  (∀ (v0 v1 v3 v4 : Value) (x : Int32) (st : List Value) (G : mc_H), mc_ev X 4 28 [v0, v1, .int x, v3, v4] st G = mc_ev X 4 29 [v0, v1, .int x, v3, v4] (.int x :: st) G) ∧
  (∀ (x y : Int32) (ls st : List Value) (G : mc_H), mc_ev X 4 29 ls (.int y :: .int x :: st) G = mc_ev X 4 30 ls (.int (x + y) :: st) G) ∧
  (∀ (x i : Int32) (r : Nat) (ls st : List Value) (G : mc_H), mc_ev X 4 30 ls (.int x :: .int i :: .ref r :: st) G = (mc_setA G 0 r i x).bind (fun G' => mc_ev X 4 31 ls st G')) ∧
  (∀ (v1 v2 v3 v4 : Value) (x : Nat) (st : List Value) (G : mc_H), mc_ev X 4 31 [.ref x, v1, v2, v3, v4] st G = mc_ev X 4 32 [.ref x, v1, v2, v3, v4] (.ref x :: st) G) ∧
  (∀ (r : Nat) (ls st : List Value) (G : mc_H), mc_ev X 4 32 ls (.ref r :: st) G = (mc_getf G r 0 8).bind (fun v => mc_ev X 4 35 ls (v :: st) G)) ∧
  (∀ (v1 v2 v3 v4 : Value) (x : Nat) (st : List Value) (G : mc_H), mc_ev X 4 35 [.ref x, v1, v2, v3, v4] st G = mc_ev X 4 36 [.ref x, v1, v2, v3, v4] (.ref x :: st) G) ∧
  (∀ (r : Nat) (ls st : List Value) (G : mc_H), mc_ev X 4 36 ls (.ref r :: st) G = (mc_getf G r 0 3).bind (fun v => mc_ev X 4 39 ls (v :: st) G)) ∧
  (∀ (v0 v1 v2 v4 : Value) (x : Int32) (st : List Value) (G : mc_H), mc_ev X 4 39 [v0, v1, v2, .int x, v4] st G = mc_ev X 4 40 [v0, v1, v2, .int x, v4] (.int x :: st) G) ∧
  (∀ (v0 v1 v2 v3 : Value) (x : Int32) (st : List Value) (G : mc_H), mc_ev X 4 40 [v0, v1, v2, v3, .int x] st G = mc_ev X 4 42 [v0, v1, v2, v3, .int x] (.int x :: st) G) ∧
  (∀ (x y : Int32) (ls st : List Value) (G : mc_H), st.length ≤ 4 → mc_ev X 4 42 ls (.int y :: .int x :: st) G = mc_ev X 4 45 ls (.int (if y < x then y else x) :: st) G) ∧
  (∀ (x i : Int32) (r : Nat) (ls st : List Value) (G : mc_H), mc_ev X 4 45 ls (.int x :: .int i :: .ref r :: st) G = (mc_setA G 0 r i x).bind (fun G' => mc_ev X 4 46 ls st G')) ∧
  (∀ (v1 v2 v3 v4 : Value) (x : Nat) (st : List Value) (G : mc_H), mc_ev X 4 46 [.ref x, v1, v2, v3, v4] st G = mc_ev X 4 47 [.ref x, v1, v2, v3, v4] (.ref x :: st) G) ∧
  (∀ (r : Nat) (ls st : List Value) (G : mc_H), mc_ev X 4 47 ls (.ref r :: st) G = (mc_getf G r 0 9).bind (fun v => mc_ev X 4 50 ls (v :: st) G)) ∧
  (∀ (v1 v2 v3 v4 : Value) (x : Nat) (st : List Value) (G : mc_H), mc_ev X 4 50 [.ref x, v1, v2, v3, v4] st G = mc_ev X 4 51 [.ref x, v1, v2, v3, v4] (.ref x :: st) G) ∧
  (∀ (r : Nat) (ls st : List Value) (G : mc_H), mc_ev X 4 51 ls (.ref r :: st) G = (mc_getf G r 0 3).bind (fun v => mc_ev X 4 54 ls (v :: st) G)) ∧
  (∀ (v0 v1 v2 v4 : Value) (x : Int32) (st : List Value) (G : mc_H), mc_ev X 4 54 [v0, v1, v2, .int x, v4] st G = mc_ev X 4 55 [v0, v1, v2, .int x, v4] (.int x :: st) G) ∧
  (∀ (v0 v1 v2 v3 : Value) (x : Int32) (st : List Value) (G : mc_H), mc_ev X 4 55 [v0, v1, v2, v3, .int x] st G = mc_ev X 4 57 [v0, v1, v2, v3, .int x] (.int x :: st) G) ∧
  (∀ (x y : Int32) (ls st : List Value) (G : mc_H), st.length ≤ 4 → mc_ev X 4 57 ls (.int y :: .int x :: st) G = mc_ev X 4 60 ls (.int (if x < y then y else x) :: st) G) ∧
  (∀ (x i : Int32) (r : Nat) (ls st : List Value) (G : mc_H), mc_ev X 4 60 ls (.int x :: .int i :: .ref r :: st) G = (mc_setA G 0 r i x).bind (fun G' => mc_ev X 4 61 ls st G')) ∧
  (∀ (v1 v2 v3 v4 : Value) (x : Nat) (st : List Value) (G : mc_H), mc_ev X 4 61 [.ref x, v1, v2, v3, v4] st G = mc_ev X 4 62 [.ref x, v1, v2, v3, v4] (.ref x :: st) G) ∧
  (∀ (x : Nat) (ls st : List Value) (G : mc_H), mc_ev X 4 62 ls (.ref x :: st) G = mc_ev X 4 63 ls (.ref x :: .ref x :: st) G) ∧
  (∀ (r : Nat) (ls st : List Value) (G : mc_H), mc_ev X 4 63 ls (.ref r :: st) G = (mc_getf G r 0 3).bind (fun v => mc_ev X 4 66 ls (v :: st) G)) ∧
  (∀ (ls st : List Value) (G : mc_H), mc_ev X 4 66 ls st G = mc_ev X 4 67 ls (.int 1 :: st) G) ∧
  (∀ (x y : Int32) (ls st : List Value) (G : mc_H), mc_ev X 4 67 ls (.int y :: .int x :: st) G = mc_ev X 4 68 ls (.int (x + y) :: st) G) ∧
  (∀ (v : Value) (r : Nat) (ls st : List Value) (G : mc_H), mc_ev X 4 68 ls (v :: .ref r :: st) G = (mc_setf G r 0 3 v).bind (fun G' => mc_ev X 4 71 ls st G')) ∧
  (∀ (ls : List Value) (G : mc_H), mc_ev X 4 71 ls [] G = some (none, G)) := ⟨fun v1 v2 v3 v4 x st G => ev_aload_n rfl rfl,
  fun r ls st G => ev_getfield rfl,
  fun ls st G => ev_bipush rfl rfl,
  fun x y ls st G => ev_br rfl rfl,
  fun v1 v2 v3 v4 x st G => ev_aload_n rfl rfl,
  fun r ls st G => ev_getfield rfl,
  fun v1 v2 v3 v4 x st G => ev_aload_n rfl rfl,
  fun r ls st G => ev_getfield rfl,
  fun v0 v2 v3 v4 x st G => ev_iload_n rfl rfl,
  fun x i r ls st G => ev_iastore rfl,
  fun v1 v2 v3 v4 x st G => ev_aload_n rfl rfl,
  fun r ls st G => ev_getfield rfl,
  fun v1 v2 v3 v4 x st G => ev_aload_n rfl rfl,
  fun r ls st G => ev_getfield rfl,
  fun v0 v2 v3 v4 x st G => ev_iload_n rfl rfl,
  fun v0 v1 v3 v4 x st G => ev_iload_n rfl rfl,
  fun x y ls st G => ev_iadd rfl,
  fun x i r ls st G => ev_iastore rfl,
  fun v1 v2 v3 v4 x st G => ev_aload_n rfl rfl,
  fun r ls st G => ev_getfield rfl,
  fun v1 v2 v3 v4 x st G => ev_aload_n rfl rfl,
  fun r ls st G => ev_getfield rfl,
  fun v0 v1 v2 v4 x st G => ev_iload_n rfl rfl,
  fun v0 v1 v2 v3 x st G => ev_iload rfl rfl,
  fun x y ls st G hr => ev_min rfl hr,
  fun x i r ls st G => ev_iastore rfl,
  fun v1 v2 v3 v4 x st G => ev_aload_n rfl rfl,
  fun r ls st G => ev_getfield rfl,
  fun v1 v2 v3 v4 x st G => ev_aload_n rfl rfl,
  fun r ls st G => ev_getfield rfl,
  fun v0 v1 v2 v4 x st G => ev_iload_n rfl rfl,
  fun v0 v1 v2 v3 x st G => ev_iload rfl rfl,
  fun x y ls st G hr => ev_max rfl hr,
  fun x i r ls st G => ev_iastore rfl,
  fun v1 v2 v3 v4 x st G => ev_aload_n rfl rfl,
  fun x ls st G => ev_dup rfl,
  fun r ls st G => ev_getfield rfl,
  fun ls st G => ev_iconst rfl rfl,
  fun x y ls st G => ev_iadd rfl,
  fun v r ls st G => ev_putfield rfl,
  fun ls G => ev_return rfl rfl⟩
theorem e_5 {X : mc_X} : (∀ (v1 : Value) (x : Nat) (st : List Value) (G : mc_H), mc_ev X 5 0 [.ref x, v1] st G = mc_ev X 5 1 [.ref x, v1] (.ref x :: st) G) ∧
  (∀ (r : Nat) (ls st : List Value) (G : mc_H), mc_ev X 5 1 ls (.ref r :: st) G = (mc_getf G r 0 5).bind (fun v => mc_ev X 5 4 ls (v :: st) G)) ∧
  (∀ (v0 : Value) (x : Int32) (st : List Value) (G : mc_H), mc_ev X 5 4 [v0, .int x] st G = mc_ev X 5 5 [v0, .int x] (.int x :: st) G) ∧
  (∀ (x y : Int32) (ls st : List Value) (G : mc_H), mc_ev X 5 5 ls (.int y :: .int x :: st) G = mc_ev X 5 6 ls (.int (x >>> (y &&& 31)) :: st) G) ∧
  (∀ (ls st : List Value) (G : mc_H), mc_ev X 5 6 ls st G = mc_ev X 5 7 ls (.int 1 :: st) G) ∧
  (∀ (x y : Int32) (ls st : List Value) (G : mc_H), mc_ev X 5 7 ls (.int y :: .int x :: st) G = mc_ev X 5 8 ls (.int (x &&& y) :: st) G) ∧
  (∀ (ls st : List Value) (G : mc_H), mc_ev X 5 8 ls st G = mc_ev X 5 9 ls (.int 1 :: st) G) ∧
  (∀ (x y : Int32) (ls st : List Value) (G : mc_H), mc_ev X 5 9 ls (.int y :: .int x :: st) G = if x = y then mc_ev X 5 12 ls st G else mc_ev X 5 16 ls st G) ∧
  (∀ (ls st : List Value) (G : mc_H), mc_ev X 5 12 ls st G = mc_ev X 5 13 ls (.int 1 :: st) G) ∧
  (∀ (ls st : List Value) (G : mc_H), mc_ev X 5 13 ls st G = mc_ev X 5 17 ls st G) ∧
  (∀ (ls st : List Value) (G : mc_H), mc_ev X 5 16 ls st G = mc_ev X 5 17 ls (.int 0 :: st) G) ∧
  (∀ (v : Int32) (ls : List Value) (G : mc_H), (v = 0 ∨ v = 1) → mc_ev X 5 17 ls [.int v] G = some (some (.int v), G)) := ⟨fun v1 x st G => ev_aload_n rfl rfl,
  fun r ls st G => ev_getfield rfl,
  fun v0 x st G => ev_iload_n rfl rfl,
  fun x y ls st G => ev_ishr rfl,
  fun ls st G => ev_iconst rfl rfl,
  fun x y ls st G => ev_iand rfl,
  fun ls st G => ev_iconst rfl rfl,
  fun x y ls st G => ev_br rfl rfl,
  fun ls st G => ev_iconst rfl rfl,
  fun ls st G => ev_goto rfl rfl,
  fun ls st G => ev_iconst rfl rfl,
  fun v ls G hv => ev_zreturn rfl rfl hv⟩
theorem e_7 {X : mc_X} : (∀ (v1 : Value) (x : Nat) (st : List Value) (G : mc_H), mc_ev X 7 0 [.ref x, v1] st G = mc_ev X 7 1 [.ref x, v1] (.ref x :: st) G) ∧
  (∀ (r : Nat) (ls st : List Value) (G : mc_H), mc_ev X 7 1 ls (.ref r :: st) G = (mc_getf G r 1 0).bind (fun v => mc_ev X 7 4 ls (v :: st) G)) ∧
  (∀ (v1 : Value) (x : Nat) (st : List Value) (G : mc_H), mc_ev X 7 4 [.ref x, v1] st G = mc_ev X 7 5 [.ref x, v1] (.ref x :: st) G) ∧
  (∀ (r : Nat) (ls st : List Value) (G : mc_H), mc_ev X 7 5 ls (.ref r :: st) G = (mc_getf G r 1 1).bind (fun v => mc_ev X 7 8 ls (v :: st) G)) ∧
  (∀ (i : Int32) (r : Nat) (ls st : List Value) (G : mc_H), mc_ev X 7 8 ls (.int i :: .ref r :: st) G = (mc_getQ G r i).bind (fun x => mc_ev X 7 9 ls (.ref x :: st) G)) ∧
  (∀ (v0 : Value) (x : Nat) (st : List Value) (G : mc_H), mc_ev X 7 9 [v0, .ref x] st G = mc_ev X 7 10 [v0, .ref x] (.ref x :: st) G) ∧
  (∀ (a0 : Nat) (r : Nat) (ls st : List Value) (G : mc_H), st.length ≤ 4 → mc_cls G r = some 5 → mc_ev X 7 10 ls (.ref a0 :: .ref r :: st) G = (mc_ev X 47 0 [.ref r, .ref a0] [] G).bind (fun q => mc_ev X 7 13 ls (q.1.toList ++ st) q.2)) ∧
  (∀ (v1 : Value) (x : Nat) (st : List Value) (G : mc_H), mc_ev X 7 13 [.ref x, v1] st G = mc_ev X 7 14 [.ref x, v1] (.ref x :: st) G) ∧
  (∀ (v1 : Value) (x : Nat) (st : List Value) (G : mc_H), mc_ev X 7 14 [.ref x, v1] st G = mc_ev X 7 15 [.ref x, v1] (.ref x :: st) G) ∧
  (∀ (r : Nat) (ls st : List Value) (G : mc_H), mc_ev X 7 15 ls (.ref r :: st) G = (mc_getf G r 1 1).bind (fun v => mc_ev X 7 18 ls (v :: st) G)) ∧
  (∀ (ls st : List Value) (G : mc_H), mc_ev X 7 18 ls st G = mc_ev X 7 19 ls (.int 1 :: st) G) ∧
  (∀ (x y : Int32) (ls st : List Value) (G : mc_H), mc_ev X 7 19 ls (.int y :: .int x :: st) G = mc_ev X 7 20 ls (.int (x + y) :: st) G) ∧
  (∀ (ls st : List Value) (G : mc_H), mc_ev X 7 20 ls st G = mc_ev X 7 22 ls (.int 20 :: st) G) ∧
  (∀ (x y : Int32) (ls st : List Value) (G : mc_H), mc_ev X 7 22 ls (.int y :: .int x :: st) G = if y = 0 then none else mc_ev X 7 23 ls (.int (x - x / y * y) :: st) G) ∧
  (∀ (v : Value) (r : Nat) (ls st : List Value) (G : mc_H), mc_ev X 7 23 ls (v :: .ref r :: st) G = (mc_setf G r 1 1 v).bind (fun G' => mc_ev X 7 26 ls st G')) ∧
  (∀ (v1 : Value) (x : Nat) (st : List Value) (G : mc_H), mc_ev X 7 26 [.ref x, v1] st G = mc_ev X 7 27 [.ref x, v1] (.ref x :: st) G) ∧
  (∀ (v1 : Value) (x : Nat) (st : List Value) (G : mc_H), mc_ev X 7 27 [.ref x, v1] st G = mc_ev X 7 28 [.ref x, v1] (.ref x :: st) G) ∧
  (∀ (r : Nat) (ls st : List Value) (G : mc_H), mc_ev X 7 28 ls (.ref r :: st) G = (mc_getf G r 1 2).bind (fun v => mc_ev X 7 31 ls (v :: st) G)) ∧
  (∀ (ls st : List Value) (G : mc_H), mc_ev X 7 31 ls st G = mc_ev X 7 32 ls (.int 1 :: st) G) ∧
  (∀ (x y : Int32) (ls st : List Value) (G : mc_H), mc_ev X 7 32 ls (.int y :: .int x :: st) G = mc_ev X 7 33 ls (.int (x + y) :: st) G) ∧
  (∀ (ls st : List Value) (G : mc_H), mc_ev X 7 33 ls st G = mc_ev X 7 35 ls (.int 20 :: st) G) ∧
  (∀ (x y : Int32) (ls st : List Value) (G : mc_H), st.length ≤ 4 → mc_ev X 7 35 ls (.int y :: .int x :: st) G = mc_ev X 7 38 ls (.int (if y < x then y else x) :: st) G) ∧
  (∀ (v : Value) (r : Nat) (ls st : List Value) (G : mc_H), mc_ev X 7 38 ls (v :: .ref r :: st) G = (mc_setf G r 1 2 v).bind (fun G' => mc_ev X 7 41 ls st G')) ∧
  (∀ (ls : List Value) (G : mc_H), mc_ev X 7 41 ls [] G = some (none, G)) := ⟨fun v1 x st G => ev_aload_n rfl rfl,
  fun r ls st G => ev_getfield rfl,
  fun v1 x st G => ev_aload_n rfl rfl,
  fun r ls st G => ev_getfield rfl,
  fun i r ls st G => ev_aaload rfl,
  fun v0 x st G => ev_aload_n rfl rfl,
  fun a0 r ls st G hr hG => ev_virt (As := [.ref a0]) rfl rfl rfl rfl rfl rfl hr hG,
  fun v1 x st G => ev_aload_n rfl rfl,
  fun v1 x st G => ev_aload_n rfl rfl,
  fun r ls st G => ev_getfield rfl,
  fun ls st G => ev_iconst rfl rfl,
  fun x y ls st G => ev_iadd rfl,
  fun ls st G => ev_bipush rfl rfl,
  fun x y ls st G => ev_irem rfl,
  fun v r ls st G => ev_putfield rfl,
  fun v1 x st G => ev_aload_n rfl rfl,
  fun v1 x st G => ev_aload_n rfl rfl,
  fun r ls st G => ev_getfield rfl,
  fun ls st G => ev_iconst rfl rfl,
  fun x y ls st G => ev_iadd rfl,
  fun ls st G => ev_bipush rfl rfl,
  fun x y ls st G hr => ev_min rfl hr,
  fun v r ls st G => ev_putfield rfl,
  fun ls G => ev_return rfl rfl⟩
theorem e_8 {X : mc_X} : (∀ (v1 : Value) (x : Nat) (st : List Value) (G : mc_H), mc_ev X 8 0 [.ref x, v1] st G = mc_ev X 8 1 [.ref x, v1] (.ref x :: st) G) ∧
  (∀ (v1 : Value) (x : Nat) (st : List Value) (G : mc_H), mc_ev X 8 1 [.ref x, v1] st G = mc_ev X 8 2 [.ref x, v1] (.ref x :: st) G) ∧
  (∀ (r : Nat) (ls st : List Value) (G : mc_H), mc_ev X 8 2 ls (.ref r :: st) G = (mc_getf G r 1 1).bind (fun v => mc_ev X 8 5 ls (v :: st) G)) ∧
  (∀ (ls st : List Value) (G : mc_H), mc_ev X 8 5 ls st G = mc_ev X 8 7 ls (.int 20 :: st) G) ∧
  (∀ (x y : Int32) (ls st : List Value) (G : mc_H), mc_ev X 8 7 ls (.int y :: .int x :: st) G = mc_ev X 8 8 ls (.int (x + y) :: st) G) ∧
  (∀ (ls st : List Value) (G : mc_H), mc_ev X 8 8 ls st G = mc_ev X 8 9 ls (.int 1 :: st) G) ∧
  (∀ (x y : Int32) (ls st : List Value) (G : mc_H), mc_ev X 8 9 ls (.int y :: .int x :: st) G = mc_ev X 8 10 ls (.int (x - y) :: st) G) ∧
  (∀ (ls st : List Value) (G : mc_H), mc_ev X 8 10 ls st G = mc_ev X 8 12 ls (.int 20 :: st) G) ∧
  (∀ (x y : Int32) (ls st : List Value) (G : mc_H), mc_ev X 8 12 ls (.int y :: .int x :: st) G = if y = 0 then none else mc_ev X 8 13 ls (.int (x - x / y * y) :: st) G) ∧
  (∀ (v : Value) (r : Nat) (ls st : List Value) (G : mc_H), mc_ev X 8 13 ls (v :: .ref r :: st) G = (mc_setf G r 1 1 v).bind (fun G' => mc_ev X 8 16 ls st G')) ∧
  (∀ (v1 : Value) (x : Nat) (st : List Value) (G : mc_H), mc_ev X 8 16 [.ref x, v1] st G = mc_ev X 8 17 [.ref x, v1] (.ref x :: st) G) ∧
  (∀ (v1 : Value) (x : Nat) (st : List Value) (G : mc_H), mc_ev X 8 17 [.ref x, v1] st G = mc_ev X 8 18 [.ref x, v1] (.ref x :: st) G) ∧
  (∀ (r : Nat) (ls st : List Value) (G : mc_H), mc_ev X 8 18 ls (.ref r :: st) G = (mc_getf G r 1 2).bind (fun v => mc_ev X 8 21 ls (v :: st) G)) ∧
  (∀ (ls st : List Value) (G : mc_H), mc_ev X 8 21 ls st G = mc_ev X 8 22 ls (.int 1 :: st) G) ∧
  (∀ (x y : Int32) (ls st : List Value) (G : mc_H), mc_ev X 8 22 ls (.int y :: .int x :: st) G = mc_ev X 8 23 ls (.int (x - y) :: st) G) ∧
  (∀ (ls st : List Value) (G : mc_H), mc_ev X 8 23 ls st G = mc_ev X 8 24 ls (.int 0 :: st) G) ∧
  (∀ (x y : Int32) (ls st : List Value) (G : mc_H), st.length ≤ 4 → mc_ev X 8 24 ls (.int y :: .int x :: st) G = mc_ev X 8 27 ls (.int (if x < y then y else x) :: st) G) ∧
  (∀ (v : Value) (r : Nat) (ls st : List Value) (G : mc_H), mc_ev X 8 27 ls (v :: .ref r :: st) G = (mc_setf G r 1 2 v).bind (fun G' => mc_ev X 8 30 ls st G')) ∧
  (∀ (v0 : Value) (x : Nat) (st : List Value) (G : mc_H), mc_ev X 8 30 [v0, .ref x] st G = mc_ev X 8 31 [v0, .ref x] (.ref x :: st) G) ∧
  (∀ (v1 : Value) (x : Nat) (st : List Value) (G : mc_H), mc_ev X 8 31 [.ref x, v1] st G = mc_ev X 8 32 [.ref x, v1] (.ref x :: st) G) ∧
  (∀ (r : Nat) (ls st : List Value) (G : mc_H), mc_ev X 8 32 ls (.ref r :: st) G = (mc_getf G r 1 0).bind (fun v => mc_ev X 8 35 ls (v :: st) G)) ∧
  (∀ (v1 : Value) (x : Nat) (st : List Value) (G : mc_H), mc_ev X 8 35 [.ref x, v1] st G = mc_ev X 8 36 [.ref x, v1] (.ref x :: st) G) ∧
  (∀ (r : Nat) (ls st : List Value) (G : mc_H), mc_ev X 8 36 ls (.ref r :: st) G = (mc_getf G r 1 1).bind (fun v => mc_ev X 8 39 ls (v :: st) G)) ∧
  (∀ (i : Int32) (r : Nat) (ls st : List Value) (G : mc_H), mc_ev X 8 39 ls (.int i :: .ref r :: st) G = (mc_getQ G r i).bind (fun x => mc_ev X 8 40 ls (.ref x :: st) G)) ∧
  (∀ (a0 : Nat) (r : Nat) (ls st : List Value) (G : mc_H), st.length ≤ 4 → mc_cls G r = some 5 → mc_ev X 8 40 ls (.ref a0 :: .ref r :: st) G = (mc_ev X 47 0 [.ref r, .ref a0] [] G).bind (fun q => mc_ev X 8 43 ls (q.1.toList ++ st) q.2)) ∧
  (∀ (ls : List Value) (G : mc_H), mc_ev X 8 43 ls [] G = some (none, G)) := ⟨fun v1 x st G => ev_aload_n rfl rfl,
  fun v1 x st G => ev_aload_n rfl rfl,
  fun r ls st G => ev_getfield rfl,
  fun ls st G => ev_bipush rfl rfl,
  fun x y ls st G => ev_iadd rfl,
  fun ls st G => ev_iconst rfl rfl,
  fun x y ls st G => ev_isub rfl,
  fun ls st G => ev_bipush rfl rfl,
  fun x y ls st G => ev_irem rfl,
  fun v r ls st G => ev_putfield rfl,
  fun v1 x st G => ev_aload_n rfl rfl,
  fun v1 x st G => ev_aload_n rfl rfl,
  fun r ls st G => ev_getfield rfl,
  fun ls st G => ev_iconst rfl rfl,
  fun x y ls st G => ev_isub rfl,
  fun ls st G => ev_iconst rfl rfl,
  fun x y ls st G hr => ev_max rfl hr,
  fun v r ls st G => ev_putfield rfl,
  fun v0 x st G => ev_aload_n rfl rfl,
  fun v1 x st G => ev_aload_n rfl rfl,
  fun r ls st G => ev_getfield rfl,
  fun v1 x st G => ev_aload_n rfl rfl,
  fun r ls st G => ev_getfield rfl,
  fun i r ls st G => ev_aaload rfl,
  fun a0 r ls st G hr hG => ev_virt (As := [.ref a0]) rfl rfl rfl rfl rfl rfl hr hG,
  fun ls G => ev_return rfl rfl⟩
theorem e_9 {X : mc_X} : (∀ (x : Nat) (st : List Value) (G : mc_H), mc_ev X 9 0 [.ref x] st G = mc_ev X 9 1 [.ref x] (.ref x :: st) G) ∧
  (∀ (ls st : List Value) (G : mc_H), mc_ev X 9 1 ls st G = mc_ev X 9 2 ls (.int 0 :: st) G) ∧
  (∀ (v : Value) (r : Nat) (ls st : List Value) (G : mc_H), mc_ev X 9 2 ls (v :: .ref r :: st) G = (mc_setf G r 1 2 v).bind (fun G' => mc_ev X 9 5 ls st G')) ∧
  (∀ (ls : List Value) (G : mc_H), mc_ev X 9 5 ls [] G = some (none, G)) := ⟨fun  x st G => ev_aload_n rfl rfl,
  fun ls st G => ev_iconst rfl rfl,
  fun v r ls st G => ev_putfield rfl,
  fun ls G => ev_return rfl rfl⟩
theorem h_11_53 {X : mc_X} : ∀ (v0 v1 : Value) (x : Int32) (st : List Value) (G : mc_H), mc_ev X 11 53 [v0, v1, .int x] st G = mc_ev X 11 54 [v0, v1, .int x] (.int x :: st) G := fun v0 v1 x st G => ev_iload_n rfl rfl
theorem e_11 {X : mc_X} : (∀ (v1 v2 : Value) (x : Nat) (st : List Value) (G : mc_H), mc_ev X 11 0 [.ref x, v1, v2] st G = mc_ev X 11 1 [.ref x, v1, v2] (.ref x :: st) G) ∧
  (∀ (v0 v2 : Value) (x : Nat) (st : List Value) (G : mc_H), mc_ev X 11 1 [v0, .ref x, v2] st G = mc_ev X 11 2 [v0, .ref x, v2] (.ref x :: st) G) ∧
  (∀ (r : Nat) (ls st : List Value) (G : mc_H), st.length ≤ 4 → mc_cls G r = some 4 → mc_ev X 11 2 ls (.ref r :: st) G = (mc_ev X 27 0 [.ref r] [] G).bind (fun q => mc_ev X 11 5 ls (q.1.toList ++ st) q.2)) ∧
  (∀ (v : Value) (r : Nat) (ls st : List Value) (G : mc_H), mc_ev X 11 5 ls (v :: .ref r :: st) G = (mc_setf G r 2 2 v).bind (fun G' => mc_ev X 11 8 ls st G')) ∧
  (∀ (v1 v2 : Value) (x : Nat) (st : List Value) (G : mc_H), mc_ev X 11 8 [.ref x, v1, v2] st G = mc_ev X 11 9 [.ref x, v1, v2] (.ref x :: st) G) ∧
  (∀ (v0 v2 : Value) (x : Nat) (st : List Value) (G : mc_H), mc_ev X 11 9 [v0, .ref x, v2] st G = mc_ev X 11 10 [v0, .ref x, v2] (.ref x :: st) G) ∧
  (∀ (r : Nat) (ls st : List Value) (G : mc_H), st.length ≤ 4 → mc_cls G r = some 4 → mc_ev X 11 10 ls (.ref r :: st) G = (mc_ev X 32 0 [.ref r, .null, .null] [] G).bind (fun q => mc_ev X 11 13 ls (q.1.toList ++ st) q.2)) ∧
  (∀ (v : Value) (r : Nat) (ls st : List Value) (G : mc_H), mc_ev X 11 13 ls (v :: .ref r :: st) G = (mc_setf G r 2 3 v).bind (fun G' => mc_ev X 11 16 ls st G')) ∧
  (∀ (v1 v2 : Value) (x : Nat) (st : List Value) (G : mc_H), mc_ev X 11 16 [.ref x, v1, v2] st G = mc_ev X 11 17 [.ref x, v1, v2] (.ref x :: st) G) ∧
  (∀ (v0 v2 : Value) (x : Nat) (st : List Value) (G : mc_H), mc_ev X 11 17 [v0, .ref x, v2] st G = mc_ev X 11 18 [v0, .ref x, v2] (.ref x :: st) G) ∧
  (∀ (r : Nat) (ls st : List Value) (G : mc_H), mc_ev X 11 18 ls (.ref r :: st) G = (mc_getf G r 4 1).bind (fun v => mc_ev X 11 21 ls (v :: st) G)) ∧
  (∀ (r : Nat) (ls st : List Value) (G : mc_H), mc_ev X 11 21 ls (.ref r :: st) G = (mc_getf G r 5 1).bind (fun v => mc_ev X 11 24 ls (v :: st) G)) ∧
  (∀ (v1 v2 : Value) (x : Nat) (st : List Value) (G : mc_H), mc_ev X 11 24 [.ref x, v1, v2] st G = mc_ev X 11 25 [.ref x, v1, v2] (.ref x :: st) G) ∧
  (∀ (r : Nat) (ls st : List Value) (G : mc_H), mc_ev X 11 25 ls (.ref r :: st) G = (mc_getf G r 2 3).bind (fun v => mc_ev X 11 28 ls (v :: st) G)) ∧
  (∀ (x y : Int32) (ls st : List Value) (G : mc_H), mc_ev X 11 28 ls (.int y :: .int x :: st) G = mc_ev X 11 29 ls (.int (x &&& y) :: st) G) ∧
  (∀ (v : Value) (r : Nat) (ls st : List Value) (G : mc_H), mc_ev X 11 29 ls (v :: .ref r :: st) G = (mc_setf G r 2 4 v).bind (fun G' => mc_ev X 11 32 ls st G')) ∧
  (∀ (v1 v2 : Value) (x : Nat) (st : List Value) (G : mc_H), mc_ev X 11 32 [.ref x, v1, v2] st G = mc_ev X 11 33 [.ref x, v1, v2] (.ref x :: st) G) ∧
  (∀ (r : Nat) (ls st : List Value) (G : mc_H), mc_ev X 11 33 ls (.ref r :: st) G = (mc_getf G r 2 0).bind (fun v => mc_ev X 11 36 ls (v :: st) G)) ∧
  (∀ (ls st : List Value) (G : mc_H), mc_ev X 11 36 ls st G = mc_ev X 11 37 ls (.int 0 :: st) G) ∧
  (∀ (v0 v2 : Value) (x : Nat) (st : List Value) (G : mc_H), mc_ev X 11 37 [v0, .ref x, v2] st G = mc_ev X 11 38 [v0, .ref x, v2] (.ref x :: st) G) ∧
  (∀ (ls st : List Value) (G : mc_H), mc_ev X 11 38 ls st G = mc_ev X 11 39 ls (.int 0 :: st) G) ∧
  (∀ (a0 : Int32) (r : Nat) (ls st : List Value) (G : mc_H), st.length ≤ 4 → mc_cls G r = some 4 → mc_ev X 11 39 ls (.int a0 :: .ref r :: st) G = (mc_ev X 37 0 [.ref r, .int a0, .null, .null] [] G).bind (fun q => mc_ev X 11 42 ls (q.1.toList ++ st) q.2)) ∧
  (∀ (x i : Int32) (r : Nat) (ls st : List Value) (G : mc_H), mc_ev X 11 42 ls (.int x :: .int i :: .ref r :: st) G = (mc_setA G 0 r i x).bind (fun G' => mc_ev X 11 43 ls st G')) ∧
  (∀ (v0 v2 : Value) (x : Nat) (st : List Value) (G : mc_H), mc_ev X 11 43 [v0, .ref x, v2] st G = mc_ev X 11 44 [v0, .ref x, v2] (.ref x :: st) G) ∧
  (∀ (r : Nat) (ls st : List Value) (G : mc_H), mc_ev X 11 44 ls (.ref r :: st) G = (mc_getf G r 4 0).bind (fun v => mc_ev X 11 47 ls (v :: st) G)) ∧
  (∀ (r : Nat) (ls st : List Value) (G : mc_H), mc_ev X 11 47 ls (.ref r :: st) G = (mc_getf G r 0 2).bind (fun v => mc_ev X 11 50 ls (v :: st) G)) ∧
  (∀ (ls st : List Value) (G : mc_H), mc_ev X 11 50 ls st G = mc_ev X 11 51 ls (.int 1 :: st) G) ∧
  (∀ (x y : Int32) (ls st : List Value) (G : mc_H), mc_ev X 11 51 ls (.int y :: .int x :: st) G = mc_ev X 11 52 ls (.int (x - y) :: st) G) ∧
  (∀ (v0 v1 v2 : Value) (x : Int32) (st : List Value) (G : mc_H), mc_ev X 11 52 [v0, v1, v2] (.int x :: st) G = mc_ev X 11 53 [v0, v1, .int x] st G) ∧
  (∀ (x : Int32) (ls st : List Value) (G : mc_H), mc_ev X 11 54 ls (.int x :: st) G = if x < 0 then mc_ev X 11 69 ls st G else mc_ev X 11 57 ls st G) ∧
  (∀ (v1 v2 : Value) (x : Nat) (st : List Value) (G : mc_H), mc_ev X 11 57 [.ref x, v1, v2] st G = mc_ev X 11 58 [.ref x, v1, v2] (.ref x :: st) G) ∧
  (∀ (v0 v2 : Value) (x : Nat) (st : List Value) (G : mc_H), mc_ev X 11 58 [v0, .ref x, v2] st G = mc_ev X 11 59 [v0, .ref x, v2] (.ref x :: st) G) ∧
  (∀ (v0 v1 : Value) (x : Int32) (st : List Value) (G : mc_H), mc_ev X 11 59 [v0, v1, .int x] st G = mc_ev X 11 60 [v0, v1, .int x] (.int x :: st) G) ∧
  (∀ (a0 : Nat) (a1 : Int32) (r : Nat) (ls st : List Value) (G : mc_H), st.length ≤ 4 → mc_cls G r = some 2 → mc_ev X 11 60 ls (.int a1 :: .ref a0 :: .ref r :: st) G = (mc_ev X 12 0 [.ref r, .ref a0, .int a1, .null, .null, .null, .null, .null, .null, .null, .null] [] G).bind (fun q => mc_ev X 11 63 ls (q.1.toList ++ st) q.2)) ∧
  (∀ (v0 v1 : Value) (x : Int32) (st : List Value) (G : mc_H), mc_ev X 11 63 [v0, v1, .int x] st G = mc_ev X 11 66 [v0, v1, .int (x + (-1))] st G) ∧
  (∀ (ls st : List Value) (G : mc_H), mc_ev X 11 66 ls st G = mc_ev X 11 53 ls st G) ∧
  (∀ (v1 v2 : Value) (x : Nat) (st : List Value) (G : mc_H), mc_ev X 11 69 [.ref x, v1, v2] st G = mc_ev X 11 70 [.ref x, v1, v2] (.ref x :: st) G) ∧
  (∀ (v1 v2 : Value) (x : Nat) (st : List Value) (G : mc_H), mc_ev X 11 70 [.ref x, v1, v2] st G = mc_ev X 11 71 [.ref x, v1, v2] (.ref x :: st) G) ∧
  (∀ (ls st : List Value) (G : mc_H), mc_ev X 11 71 ls st G = mc_ev X 11 72 ls (.int (-1) :: st) G) ∧
  (∀ (a0 : Int32) (r : Nat) (ls st : List Value) (G : mc_H), st.length ≤ 4 → mc_cls G r = some 2 → mc_ev X 11 72 ls (.int a0 :: .ref r :: st) G = (mc_ev X 16 0 [.ref r, .int a0, .null, .null] [] G).bind (fun q => mc_ev X 11 75 ls (q.1.toList ++ st) q.2)) ∧
  (∀ (v : Value) (r : Nat) (ls st : List Value) (G : mc_H), mc_ev X 11 75 ls (v :: .ref r :: st) G = (mc_setf G r 2 5 v).bind (fun G' => mc_ev X 11 78 ls st G')) ∧
  (∀ (v1 v2 : Value) (x : Nat) (st : List Value) (G : mc_H), mc_ev X 11 78 [.ref x, v1, v2] st G = mc_ev X 11 79 [.ref x, v1, v2] (.ref x :: st) G) ∧
  (∀ (ls st : List Value) (G : mc_H), mc_ev X 11 79 ls st G = mc_ev X 11 80 ls (.int 0 :: st) G) ∧
  (∀ (v : Value) (r : Nat) (ls st : List Value) (G : mc_H), mc_ev X 11 80 ls (v :: .ref r :: st) G = (mc_setf G r 2 1 v).bind (fun G' => mc_ev X 11 83 ls st G')) ∧
  (∀ (ls : List Value) (G : mc_H), mc_ev X 11 83 ls [] G = some (none, G)) := ⟨fun v1 v2 x st G => ev_aload_n rfl rfl,
  fun v0 v2 x st G => ev_aload_n rfl rfl,
  fun r ls st G hr hG => ev_virt (As := []) rfl rfl rfl rfl rfl rfl hr hG,
  fun v r ls st G => ev_putfield rfl,
  fun v1 v2 x st G => ev_aload_n rfl rfl,
  fun v0 v2 x st G => ev_aload_n rfl rfl,
  fun r ls st G hr hG => ev_virt (As := []) rfl rfl rfl rfl rfl rfl hr hG,
  fun v r ls st G => ev_putfield rfl,
  fun v1 v2 x st G => ev_aload_n rfl rfl,
  fun v0 v2 x st G => ev_aload_n rfl rfl,
  fun r ls st G => ev_getfield rfl,
  fun r ls st G => ev_getfield rfl,
  fun v1 v2 x st G => ev_aload_n rfl rfl,
  fun r ls st G => ev_getfield rfl,
  fun x y ls st G => ev_iand rfl,
  fun v r ls st G => ev_putfield rfl,
  fun v1 v2 x st G => ev_aload_n rfl rfl,
  fun r ls st G => ev_getfield rfl,
  fun ls st G => ev_iconst rfl rfl,
  fun v0 v2 x st G => ev_aload_n rfl rfl,
  fun ls st G => ev_iconst rfl rfl,
  fun a0 r ls st G hr hG => ev_virt (As := [.int a0]) rfl rfl rfl rfl rfl rfl hr hG,
  fun x i r ls st G => ev_iastore rfl,
  fun v0 v2 x st G => ev_aload_n rfl rfl,
  fun r ls st G => ev_getfield rfl,
  fun r ls st G => ev_getfield rfl,
  fun ls st G => ev_iconst rfl rfl,
  fun x y ls st G => ev_isub rfl,
  fun v0 v1 v2 x st G => ev_istore_n (X := X) (k := 11) (pc := 52) (ls := [v0, v1, v2]) (st := st) (G := G) (j := 2) (x := x) rfl (Nat.le_of_ble_eq_true rfl),
  fun x ls st G => ev_br rfl rfl,
  fun v1 v2 x st G => ev_aload_n rfl rfl,
  fun v0 v2 x st G => ev_aload_n rfl rfl,
  fun v0 v1 x st G => ev_iload_n rfl rfl,
  fun a0 a1 r ls st G hr hG => ev_virt (As := [.ref a0, .int a1]) rfl rfl rfl rfl rfl rfl hr hG,
  fun v0 v1 x st G => ev_iinc (X := X) (k := 11) (pc := 63) (ls := [v0, v1, .int x]) (st := st) (G := G) (j := 2) (n := (-1)) (x := x) (v := (-1)) rfl rfl rfl,
  fun ls st G => ev_goto rfl rfl,
  fun v1 v2 x st G => ev_aload_n rfl rfl,
  fun v1 v2 x st G => ev_aload_n rfl rfl,
  fun ls st G => ev_iconst rfl rfl,
  fun a0 r ls st G hr hG => ev_virt (As := [.int a0]) rfl rfl rfl rfl rfl rfl hr hG,
  fun v r ls st G => ev_putfield rfl,
  fun v1 v2 x st G => ev_aload_n rfl rfl,
  fun ls st G => ev_iconst rfl rfl,
  fun v r ls st G => ev_putfield rfl,
  fun ls G => ev_return rfl rfl⟩
theorem h_12_24 {X : mc_X} : ∀ (v0 v1 v2 v3 v4 v5 v6 v7 v8 v10 : Value) (x : Int32) (st : List Value) (G : mc_H), mc_ev X 12 24 [v0, v1, v2, v3, v4, v5, v6, v7, v8, .int x, v10] st G = mc_ev X 12 26 [v0, v1, v2, v3, v4, v5, v6, v7, v8, .int x, v10] (.int x :: st) G := fun v0 v1 v2 v3 v4 v5 v6 v7 v8 v10 x st G => ev_iload rfl rfl
theorem h_12_114 {X : mc_X} : ∀ (v0 v1 v2 v3 v4 v5 v6 v7 v8 v10 : Value) (x : Int32) (st : List Value) (G : mc_H), mc_ev X 12 114 [v0, v1, v2, v3, v4, v5, v6, v7, v8, .int x, v10] st G = mc_ev X 12 116 [v0, v1, v2, v3, v4, v5, v6, v7, v8, .int x, v10] (.int x :: st) G := fun v0 v1 v2 v3 v4 v5 v6 v7 v8 v10 x st G => ev_iload rfl rfl
theorem e_12 {X : mc_X} : (∀ (v0 v2 v3 v4 v5 v6 v7 v8 v9 v10 : Value) (x : Nat) (st : List Value) (G : mc_H), mc_ev X 12 0 [v0, .ref x, v2, v3, v4, v5, v6, v7, v8, v9, v10] st G = mc_ev X 12 1 [v0, .ref x, v2, v3, v4, v5, v6, v7, v8, v9, v10] (.ref x :: st) G) ∧
  (∀ (v0 v1 v3 v4 v5 v6 v7 v8 v9 v10 : Value) (x : Int32) (st : List Value) (G : mc_H), mc_ev X 12 1 [v0, v1, .int x, v3, v4, v5, v6, v7, v8, v9, v10] st G = mc_ev X 12 2 [v0, v1, .int x, v3, v4, v5, v6, v7, v8, v9, v10] (.int x :: st) G) ∧
  (∀ (a0 : Int32) (r : Nat) (ls st : List Value) (G : mc_H), st.length ≤ 4 → mc_cls G r = some 4 → mc_ev X 12 2 ls (.int a0 :: .ref r :: st) G = (mc_ev X 28 0 [.ref r, .int a0] [] G).bind (fun q => mc_ev X 12 5 ls (q.1.toList ++ st) q.2)) ∧
  (∀ (v0 v1 v2 v3 v4 v5 v6 v7 v8 v9 v10 : Value) (x : Int32) (st : List Value) (G : mc_H), mc_ev X 12 5 [v0, v1, v2, v3, v4, v5, v6, v7, v8, v9, v10] (.int x :: st) G = mc_ev X 12 6 [v0, v1, v2, .int x, v4, v5, v6, v7, v8, v9, v10] st G) ∧
  (∀ (ls st : List Value) (G : mc_H), mc_ev X 12 6 ls st G = mc_ev X 12 7 ls (.int 0 :: st) G) ∧
  (∀ (v0 v1 v2 v3 v4 v5 v6 v7 v8 v9 v10 : Value) (x : Int32) (st : List Value) (G : mc_H), mc_ev X 12 7 [v0, v1, v2, v3, v4, v5, v6, v7, v8, v9, v10] (.int x :: st) G = mc_ev X 12 9 [v0, v1, v2, v3, .int x, v5, v6, v7, v8, v9, v10] st G) ∧
  (∀ (ls st : List Value) (G : mc_H), mc_ev X 12 9 ls st G = mc_ev X 12 10 ls (.int 0 :: st) G) ∧
  (∀ (v0 v1 v2 v3 v4 v5 v6 v7 v8 v9 v10 : Value) (x : Int32) (st : List Value) (G : mc_H), mc_ev X 12 10 [v0, v1, v2, v3, v4, v5, v6, v7, v8, v9, v10] (.int x :: st) G = mc_ev X 12 12 [v0, v1, v2, v3, v4, .int x, v6, v7, v8, v9, v10] st G) ∧
  (∀ (ls st : List Value) (G : mc_H), mc_ev X 12 12 ls st G = mc_ev X 12 13 ls (.int 0 :: st) G) ∧
  (∀ (v0 v1 v2 v3 v4 v5 v6 v7 v8 v9 v10 : Value) (x : Int32) (st : List Value) (G : mc_H), mc_ev X 12 13 [v0, v1, v2, v3, v4, v5, v6, v7, v8, v9, v10] (.int x :: st) G = mc_ev X 12 15 [v0, v1, v2, v3, v4, v5, .int x, v7, v8, v9, v10] st G) ∧
  (∀ (ls st : List Value) (G : mc_H), mc_ev X 12 15 ls st G = mc_ev X 12 16 ls (.int 0 :: st) G) ∧
  (∀ (v0 v1 v2 v3 v4 v5 v6 v7 v8 v9 v10 : Value) (x : Int32) (st : List Value) (G : mc_H), mc_ev X 12 16 [v0, v1, v2, v3, v4, v5, v6, v7, v8, v9, v10] (.int x :: st) G = mc_ev X 12 18 [v0, v1, v2, v3, v4, v5, v6, .int x, v8, v9, v10] st G) ∧
  (∀ (ls st : List Value) (G : mc_H), mc_ev X 12 18 ls st G = mc_ev X 12 19 ls (.int 0 :: st) G) ∧
  (∀ (v0 v1 v2 v3 v4 v5 v6 v7 v8 v9 v10 : Value) (x : Int32) (st : List Value) (G : mc_H), mc_ev X 12 19 [v0, v1, v2, v3, v4, v5, v6, v7, v8, v9, v10] (.int x :: st) G = mc_ev X 12 21 [v0, v1, v2, v3, v4, v5, v6, v7, .int x, v9, v10] st G) ∧
  (∀ (ls st : List Value) (G : mc_H), mc_ev X 12 21 ls st G = mc_ev X 12 22 ls (.int 0 :: st) G) ∧
  (∀ (v0 v1 v2 v3 v4 v5 v6 v7 v8 v9 v10 : Value) (x : Int32) (st : List Value) (G : mc_H), mc_ev X 12 22 [v0, v1, v2, v3, v4, v5, v6, v7, v8, v9, v10] (.int x :: st) G = mc_ev X 12 24 [v0, v1, v2, v3, v4, v5, v6, v7, v8, .int x, v10] st G) ∧
  (∀ (v0 v2 v3 v4 v5 v6 v7 v8 v9 v10 : Value) (x : Nat) (st : List Value) (G : mc_H), mc_ev X 12 26 [v0, .ref x, v2, v3, v4, v5, v6, v7, v8, v9, v10] st G = mc_ev X 12 27 [v0, .ref x, v2, v3, v4, v5, v6, v7, v8, v9, v10] (.ref x :: st) G) ∧
  (∀ (r : Nat) (ls st : List Value) (G : mc_H), mc_ev X 12 27 ls (.ref r :: st) G = (mc_getf G r 4 0).bind (fun v => mc_ev X 12 30 ls (v :: st) G)) ∧
  (∀ (r : Nat) (ls st : List Value) (G : mc_H), mc_ev X 12 30 ls (.ref r :: st) G = (mc_getf G r 0 3).bind (fun v => mc_ev X 12 33 ls (v :: st) G)) ∧
  (∀ (x y : Int32) (ls st : List Value) (G : mc_H), mc_ev X 12 33 ls (.int y :: .int x :: st) G = if x < y then mc_ev X 12 36 ls st G else mc_ev X 12 111 ls st G) ∧
  (∀ (v0 v2 v3 v4 v5 v6 v7 v8 v9 v10 : Value) (x : Nat) (st : List Value) (G : mc_H), mc_ev X 12 36 [v0, .ref x, v2, v3, v4, v5, v6, v7, v8, v9, v10] st G = mc_ev X 12 37 [v0, .ref x, v2, v3, v4, v5, v6, v7, v8, v9, v10] (.ref x :: st) G) ∧
  (∀ (v0 v1 v2 v3 v4 v5 v6 v7 v8 v10 : Value) (x : Int32) (st : List Value) (G : mc_H), mc_ev X 12 37 [v0, v1, v2, v3, v4, v5, v6, v7, v8, .int x, v10] st G = mc_ev X 12 39 [v0, v1, v2, v3, v4, v5, v6, v7, v8, .int x, v10] (.int x :: st) G) ∧
  (∀ (v0 v1 v3 v4 v5 v6 v7 v8 v9 v10 : Value) (x : Int32) (st : List Value) (G : mc_H), mc_ev X 12 39 [v0, v1, .int x, v3, v4, v5, v6, v7, v8, v9, v10] st G = mc_ev X 12 40 [v0, v1, .int x, v3, v4, v5, v6, v7, v8, v9, v10] (.int x :: st) G) ∧
  (∀ (a0 : Int32) (a1 : Int32) (r : Nat) (ls st : List Value) (G : mc_H), st.length ≤ 4 → mc_cls G r = some 4 → mc_ev X 12 40 ls (.int a1 :: .int a0 :: .ref r :: st) G = (mc_ev X 39 0 [.ref r, .int a0, .int a1] [] G).bind (fun q => mc_ev X 12 43 ls (q.1.toList ++ st) q.2)) ∧
  (∀ (x : Int32) (ls st : List Value) (G : mc_H), mc_ev X 12 43 ls (.int x :: st) G = if x = 0 then mc_ev X 12 57 ls st G else mc_ev X 12 46 ls st G) ∧
  (∀ (v0 v1 v2 v3 v5 v6 v7 v8 v9 v10 : Value) (x : Int32) (st : List Value) (G : mc_H), mc_ev X 12 46 [v0, v1, v2, v3, .int x, v5, v6, v7, v8, v9, v10] st G = mc_ev X 12 48 [v0, v1, v2, v3, .int x, v5, v6, v7, v8, v9, v10] (.int x :: st) G) ∧
  (∀ (v0 v2 v3 v4 v5 v6 v7 v8 v9 v10 : Value) (x : Nat) (st : List Value) (G : mc_H), mc_ev X 12 48 [v0, .ref x, v2, v3, v4, v5, v6, v7, v8, v9, v10] st G = mc_ev X 12 49 [v0, .ref x, v2, v3, v4, v5, v6, v7, v8, v9, v10] (.ref x :: st) G) ∧
  (∀ (v0 v1 v2 v3 v4 v5 v6 v7 v8 v10 : Value) (x : Int32) (st : List Value) (G : mc_H), mc_ev X 12 49 [v0, v1, v2, v3, v4, v5, v6, v7, v8, .int x, v10] st G = mc_ev X 12 51 [v0, v1, v2, v3, v4, v5, v6, v7, v8, .int x, v10] (.int x :: st) G) ∧
  (∀ (a0 : Int32) (r : Nat) (ls st : List Value) (G : mc_H), st.length ≤ 4 → mc_cls G r = some 4 → mc_ev X 12 51 ls (.int a0 :: .ref r :: st) G = (mc_ev X 34 0 [.ref r, .int a0, .null, .null] [] G).bind (fun q => mc_ev X 12 54 ls (q.1.toList ++ st) q.2)) ∧
  (∀ (x y : Int32) (ls st : List Value) (G : mc_H), mc_ev X 12 54 ls (.int y :: .int x :: st) G = mc_ev X 12 55 ls (.int (x + y) :: st) G) ∧
  (∀ (v0 v1 v2 v3 v4 v5 v6 v7 v8 v9 v10 : Value) (x : Int32) (st : List Value) (G : mc_H), mc_ev X 12 55 [v0, v1, v2, v3, v4, v5, v6, v7, v8, v9, v10] (.int x :: st) G = mc_ev X 12 57 [v0, v1, v2, v3, .int x, v5, v6, v7, v8, v9, v10] st G) ∧
  (∀ (v0 v2 v3 v4 v5 v6 v7 v8 v9 v10 : Value) (x : Nat) (st : List Value) (G : mc_H), mc_ev X 12 57 [v0, .ref x, v2, v3, v4, v5, v6, v7, v8, v9, v10] st G = mc_ev X 12 58 [v0, .ref x, v2, v3, v4, v5, v6, v7, v8, v9, v10] (.ref x :: st) G) ∧
  (∀ (r : Nat) (ls st : List Value) (G : mc_H), mc_ev X 12 58 ls (.ref r :: st) G = (mc_getf G r 4 0).bind (fun v => mc_ev X 12 61 ls (v :: st) G)) ∧
  (∀ (r : Nat) (ls st : List Value) (G : mc_H), mc_ev X 12 61 ls (.ref r :: st) G = (mc_getf G r 0 6).bind (fun v => mc_ev X 12 64 ls (v :: st) G)) ∧
  (∀ (v0 v1 v2 v3 v4 v5 v6 v7 v8 v10 : Value) (x : Int32) (st : List Value) (G : mc_H), mc_ev X 12 64 [v0, v1, v2, v3, v4, v5, v6, v7, v8, .int x, v10] st G = mc_ev X 12 66 [v0, v1, v2, v3, v4, v5, v6, v7, v8, .int x, v10] (.int x :: st) G) ∧
  (∀ (i : Int32) (r : Value) (ls st : List Value) (G : mc_H), mc_ev X 12 66 ls (.int i :: r :: st) G = (mc_getA X G 0 r i).bind (fun x => mc_ev X 12 67 ls (.int x :: st) G)) ∧
  (∀ (v0 v1 v3 v4 v5 v6 v7 v8 v9 v10 : Value) (x : Int32) (st : List Value) (G : mc_H), mc_ev X 12 67 [v0, v1, .int x, v3, v4, v5, v6, v7, v8, v9, v10] st G = mc_ev X 12 68 [v0, v1, .int x, v3, v4, v5, v6, v7, v8, v9, v10] (.int x :: st) G) ∧
  (∀ (x y : Int32) (ls st : List Value) (G : mc_H), mc_ev X 12 68 ls (.int y :: .int x :: st) G = if x = y then mc_ev X 12 71 ls st G else mc_ev X 12 105 ls st G) ∧
  (∀ (v0 v1 v2 v3 v4 v5 v6 v8 v9 v10 : Value) (x : Int32) (st : List Value) (G : mc_H), mc_ev X 12 71 [v0, v1, v2, v3, v4, v5, v6, .int x, v8, v9, v10] st G = mc_ev X 12 73 [v0, v1, v2, v3, v4, v5, v6, .int x, v8, v9, v10] (.int x :: st) G) ∧
  (∀ (v0 v1 v2 v3 v4 v5 v6 v7 v8 v9 v10 : Value) (x : Int32) (st : List Value) (G : mc_H), mc_ev X 12 73 [v0, v1, v2, v3, v4, v5, v6, v7, v8, v9, v10] (.int x :: st) G = mc_ev X 12 75 [v0, v1, v2, v3, v4, .int x, v6, v7, v8, v9, v10] st G) ∧
  (∀ (v0 v1 v2 v3 v4 v5 v6 v7 v9 v10 : Value) (x : Int32) (st : List Value) (G : mc_H), mc_ev X 12 75 [v0, v1, v2, v3, v4, v5, v6, v7, .int x, v9, v10] st G = mc_ev X 12 77 [v0, v1, v2, v3, v4, v5, v6, v7, .int x, v9, v10] (.int x :: st) G) ∧
  (∀ (v0 v1 v2 v3 v4 v5 v6 v7 v8 v9 v10 : Value) (x : Int32) (st : List Value) (G : mc_H), mc_ev X 12 77 [v0, v1, v2, v3, v4, v5, v6, v7, v8, v9, v10] (.int x :: st) G = mc_ev X 12 79 [v0, v1, v2, v3, v4, v5, .int x, v7, v8, v9, v10] st G) ∧
  (∀ (v0 v2 v3 v4 v5 v6 v7 v8 v9 v10 : Value) (x : Nat) (st : List Value) (G : mc_H), mc_ev X 12 79 [v0, .ref x, v2, v3, v4, v5, v6, v7, v8, v9, v10] st G = mc_ev X 12 80 [v0, .ref x, v2, v3, v4, v5, v6, v7, v8, v9, v10] (.ref x :: st) G) ∧
  (∀ (v0 v2 v3 v4 v5 v6 v7 v8 v9 v10 : Value) (x : Nat) (st : List Value) (G : mc_H), mc_ev X 12 80 [v0, .ref x, v2, v3, v4, v5, v6, v7, v8, v9, v10] st G = mc_ev X 12 81 [v0, .ref x, v2, v3, v4, v5, v6, v7, v8, v9, v10] (.ref x :: st) G) ∧
  (∀ (r : Nat) (ls st : List Value) (G : mc_H), mc_ev X 12 81 ls (.ref r :: st) G = (mc_getf G r 4 0).bind (fun v => mc_ev X 12 84 ls (v :: st) G)) ∧
  (∀ (r : Nat) (ls st : List Value) (G : mc_H), mc_ev X 12 84 ls (.ref r :: st) G = (mc_getf G r 0 7).bind (fun v => mc_ev X 12 87 ls (v :: st) G)) ∧
  (∀ (v0 v1 v2 v3 v4 v5 v6 v7 v8 v10 : Value) (x : Int32) (st : List Value) (G : mc_H), mc_ev X 12 87 [v0, v1, v2, v3, v4, v5, v6, v7, v8, .int x, v10] st G = mc_ev X 12 89 [v0, v1, v2, v3, v4, v5, v6, v7, v8, .int x, v10] (.int x :: st) G) ∧
  (∀ (i : Int32) (r : Value) (ls st : List Value) (G : mc_H), mc_ev X 12 89 ls (.int i :: r :: st) G = (mc_getA X G 0 r i).bind (fun x => mc_ev X 12 90 ls (.int x :: st) G)) ∧
  (∀ (a0 : Int32) (r : Nat) (ls st : List Value) (G : mc_H), st.length ≤ 4 → mc_cls G r = some 4 → mc_ev X 12 90 ls (.int a0 :: .ref r :: st) G = (mc_ev X 28 0 [.ref r, .int a0] [] G).bind (fun q => mc_ev X 12 93 ls (q.1.toList ++ st) q.2)) ∧
  (∀ (v0 v1 v2 v3 v4 v5 v6 v7 v8 v9 v10 : Value) (x : Int32) (st : List Value) (G : mc_H), mc_ev X 12 93 [v0, v1, v2, v3, v4, v5, v6, v7, v8, v9, v10] (.int x :: st) G = mc_ev X 12 95 [v0, v1, v2, v3, v4, v5, v6, .int x, v8, v9, v10] st G) ∧
  (∀ (ls st : List Value) (G : mc_H), mc_ev X 12 95 ls st G = mc_ev X 12 96 ls (.int 2 :: st) G) ∧
  (∀ (v0 v2 v3 v4 v5 v6 v7 v8 v9 v10 : Value) (x : Nat) (st : List Value) (G : mc_H), mc_ev X 12 96 [v0, .ref x, v2, v3, v4, v5, v6, v7, v8, v9, v10] st G = mc_ev X 12 97 [v0, .ref x, v2, v3, v4, v5, v6, v7, v8, v9, v10] (.ref x :: st) G) ∧
  (∀ (v0 v1 v2 v3 v4 v5 v6 v7 v8 v10 : Value) (x : Int32) (st : List Value) (G : mc_H), mc_ev X 12 97 [v0, v1, v2, v3, v4, v5, v6, v7, v8, .int x, v10] st G = mc_ev X 12 99 [v0, v1, v2, v3, v4, v5, v6, v7, v8, .int x, v10] (.int x :: st) G) ∧
  (∀ (a0 : Int32) (r : Nat) (ls st : List Value) (G : mc_H), st.length ≤ 4 → mc_cls G r = some 4 → mc_ev X 12 99 ls (.int a0 :: .ref r :: st) G = (mc_ev X 34 0 [.ref r, .int a0, .null, .null] [] G).bind (fun q => mc_ev X 12 102 ls (q.1.toList ++ st) q.2)) ∧
  (∀ (x y : Int32) (ls st : List Value) (G : mc_H), mc_ev X 12 102 ls (.int y :: .int x :: st) G = mc_ev X 12 103 ls (.int (x * y) :: st) G) ∧
  (∀ (v0 v1 v2 v3 v4 v5 v6 v7 v8 v9 v10 : Value) (x : Int32) (st : List Value) (G : mc_H), mc_ev X 12 103 [v0, v1, v2, v3, v4, v5, v6, v7, v8, v9, v10] (.int x :: st) G = mc_ev X 12 105 [v0, v1, v2, v3, v4, v5, v6, v7, .int x, v9, v10] st G) ∧
  (∀ (v0 v1 v2 v3 v4 v5 v6 v7 v8 v10 : Value) (x : Int32) (st : List Value) (G : mc_H), mc_ev X 12 105 [v0, v1, v2, v3, v4, v5, v6, v7, v8, .int x, v10] st G = mc_ev X 12 108 [v0, v1, v2, v3, v4, v5, v6, v7, v8, .int (x + 1), v10] st G) ∧
  (∀ (ls st : List Value) (G : mc_H), mc_ev X 12 108 ls st G = mc_ev X 12 24 ls st G) ∧
  (∀ (ls st : List Value) (G : mc_H), mc_ev X 12 111 ls st G = mc_ev X 12 112 ls (.int 0 :: st) G) ∧
  (∀ (v0 v1 v2 v3 v4 v5 v6 v7 v8 v9 v10 : Value) (x : Int32) (st : List Value) (G : mc_H), mc_ev X 12 112 [v0, v1, v2, v3, v4, v5, v6, v7, v8, v9, v10] (.int x :: st) G = mc_ev X 12 114 [v0, v1, v2, v3, v4, v5, v6, v7, v8, .int x, v10] st G) ∧
  (∀ (v0 v1 v2 v4 v5 v6 v7 v8 v9 v10 : Value) (x : Int32) (st : List Value) (G : mc_H), mc_ev X 12 116 [v0, v1, v2, .int x, v4, v5, v6, v7, v8, v9, v10] st G = mc_ev X 12 117 [v0, v1, v2, .int x, v4, v5, v6, v7, v8, v9, v10] (.int x :: st) G) ∧
  (∀ (x y : Int32) (ls st : List Value) (G : mc_H), mc_ev X 12 117 ls (.int y :: .int x :: st) G = if x < y then mc_ev X 12 120 ls st G else mc_ev X 12 179 ls st G) ∧
  (∀ (v1 v2 v3 v4 v5 v6 v7 v8 v9 v10 : Value) (x : Nat) (st : List Value) (G : mc_H), mc_ev X 12 120 [.ref x, v1, v2, v3, v4, v5, v6, v7, v8, v9, v10] st G = mc_ev X 12 121 [.ref x, v1, v2, v3, v4, v5, v6, v7, v8, v9, v10] (.ref x :: st) G) ∧
  (∀ (r : Nat) (ls st : List Value) (G : mc_H), mc_ev X 12 121 ls (.ref r :: st) G = (mc_getf G r 2 0).bind (fun v => mc_ev X 12 124 ls (v :: st) G)) ∧
  (∀ (v0 v1 v2 v3 v4 v5 v6 v7 v8 v10 : Value) (x : Int32) (st : List Value) (G : mc_H), mc_ev X 12 124 [v0, v1, v2, v3, v4, v5, v6, v7, v8, .int x, v10] st G = mc_ev X 12 126 [v0, v1, v2, v3, v4, v5, v6, v7, v8, .int x, v10] (.int x :: st) G) ∧
  (∀ (i : Int32) (r : Value) (ls st : List Value) (G : mc_H), mc_ev X 12 126 ls (.int i :: r :: st) G = (mc_getA X G 0 r i).bind (fun x => mc_ev X 12 127 ls (.int x :: st) G)) ∧
  (∀ (v0 v1 v2 v3 v5 v6 v7 v8 v9 v10 : Value) (x : Int32) (st : List Value) (G : mc_H), mc_ev X 12 127 [v0, v1, v2, v3, .int x, v5, v6, v7, v8, v9, v10] st G = mc_ev X 12 129 [v0, v1, v2, v3, .int x, v5, v6, v7, v8, v9, v10] (.int x :: st) G) ∧
  (∀ (x y : Int32) (ls st : List Value) (G : mc_H), mc_ev X 12 129 ls (.int y :: .int x :: st) G = mc_ev X 12 130 ls (.int (x + y) :: st) G) ∧
  (∀ (v0 v1 v2 v3 v4 v5 v6 v7 v8 v9 v10 : Value) (x : Int32) (st : List Value) (G : mc_H), mc_ev X 12 130 [v0, v1, v2, v3, v4, v5, v6, v7, v8, v9, v10] (.int x :: st) G = mc_ev X 12 132 [v0, v1, v2, v3, v4, v5, v6, v7, v8, v9, .int x] st G) ∧
  (∀ (v0 v1 v2 v3 v4 v5 v6 v7 v8 v10 : Value) (x : Int32) (st : List Value) (G : mc_H), mc_ev X 12 132 [v0, v1, v2, v3, v4, v5, v6, v7, v8, .int x, v10] st G = mc_ev X 12 134 [v0, v1, v2, v3, v4, v5, v6, v7, v8, .int x, v10] (.int x :: st) G) ∧
  (∀ (v0 v1 v2 v3 v4 v6 v7 v8 v9 v10 : Value) (x : Int32) (st : List Value) (G : mc_H), mc_ev X 12 134 [v0, v1, v2, v3, v4, .int x, v6, v7, v8, v9, v10] st G = mc_ev X 12 136 [v0, v1, v2, v3, v4, .int x, v6, v7, v8, v9, v10] (.int x :: st) G) ∧
  (∀ (x y : Int32) (ls st : List Value) (G : mc_H), mc_ev X 12 136 ls (.int y :: .int x :: st) G = mc_ev X 12 137 ls (.int (x &&& y) :: st) G) ∧
  (∀ (x : Int32) (ls st : List Value) (G : mc_H), mc_ev X 12 137 ls (.int x :: st) G = if x = 0 then mc_ev X 12 147 ls st G else mc_ev X 12 140 ls st G) ∧
  (∀ (v0 v1 v2 v3 v4 v5 v6 v7 v8 v9 : Value) (x : Int32) (st : List Value) (G : mc_H), mc_ev X 12 140 [v0, v1, v2, v3, v4, v5, v6, v7, v8, v9, .int x] st G = mc_ev X 12 142 [v0, v1, v2, v3, v4, v5, v6, v7, v8, v9, .int x] (.int x :: st) G) ∧
  (∀ (v0 v1 v2 v3 v4 v5 v7 v8 v9 v10 : Value) (x : Int32) (st : List Value) (G : mc_H), mc_ev X 12 142 [v0, v1, v2, v3, v4, v5, .int x, v7, v8, v9, v10] st G = mc_ev X 12 144 [v0, v1, v2, v3, v4, v5, .int x, v7, v8, v9, v10] (.int x :: st) G) ∧
  (∀ (x y : Int32) (ls st : List Value) (G : mc_H), mc_ev X 12 144 ls (.int y :: .int x :: st) G = mc_ev X 12 145 ls (.int (x - y) :: st) G) ∧
  (∀ (v0 v1 v2 v3 v4 v5 v6 v7 v8 v9 v10 : Value) (x : Int32) (st : List Value) (G : mc_H), mc_ev X 12 145 [v0, v1, v2, v3, v4, v5, v6, v7, v8, v9, v10] (.int x :: st) G = mc_ev X 12 147 [v0, v1, v2, v3, v4, v5, v6, v7, v8, v9, .int x] st G) ∧
  (∀ (v0 v1 v2 v3 v4 v5 v6 v7 v8 v10 : Value) (x : Int32) (st : List Value) (G : mc_H), mc_ev X 12 147 [v0, v1, v2, v3, v4, v5, v6, v7, v8, .int x, v10] st G = mc_ev X 12 149 [v0, v1, v2, v3, v4, v5, v6, v7, v8, .int x, v10] (.int x :: st) G) ∧
  (∀ (v0 v1 v2 v3 v4 v5 v6 v8 v9 v10 : Value) (x : Int32) (st : List Value) (G : mc_H), mc_ev X 12 149 [v0, v1, v2, v3, v4, v5, v6, .int x, v8, v9, v10] st G = mc_ev X 12 151 [v0, v1, v2, v3, v4, v5, v6, .int x, v8, v9, v10] (.int x :: st) G) ∧
  (∀ (x y : Int32) (ls st : List Value) (G : mc_H), mc_ev X 12 151 ls (.int y :: .int x :: st) G = mc_ev X 12 152 ls (.int (x &&& y) :: st) G) ∧
  (∀ (x : Int32) (ls st : List Value) (G : mc_H), mc_ev X 12 152 ls (.int x :: st) G = if x = 0 then mc_ev X 12 162 ls st G else mc_ev X 12 155 ls st G) ∧
  (∀ (v0 v1 v2 v3 v4 v5 v6 v7 v8 v9 : Value) (x : Int32) (st : List Value) (G : mc_H), mc_ev X 12 155 [v0, v1, v2, v3, v4, v5, v6, v7, v8, v9, .int x] st G = mc_ev X 12 157 [v0, v1, v2, v3, v4, v5, v6, v7, v8, v9, .int x] (.int x :: st) G) ∧
  (∀ (v0 v1 v2 v3 v4 v5 v6 v7 v9 v10 : Value) (x : Int32) (st : List Value) (G : mc_H), mc_ev X 12 157 [v0, v1, v2, v3, v4, v5, v6, v7, .int x, v9, v10] st G = mc_ev X 12 159 [v0, v1, v2, v3, v4, v5, v6, v7, .int x, v9, v10] (.int x :: st) G) ∧
  (∀ (x y : Int32) (ls st : List Value) (G : mc_H), mc_ev X 12 159 ls (.int y :: .int x :: st) G = mc_ev X 12 160 ls (.int (x - y) :: st) G) ∧
  (∀ (v0 v1 v2 v3 v4 v5 v6 v7 v8 v9 v10 : Value) (x : Int32) (st : List Value) (G : mc_H), mc_ev X 12 160 [v0, v1, v2, v3, v4, v5, v6, v7, v8, v9, v10] (.int x :: st) G = mc_ev X 12 162 [v0, v1, v2, v3, v4, v5, v6, v7, v8, v9, .int x] st G) ∧
  (∀ (v1 v2 v3 v4 v5 v6 v7 v8 v9 v10 : Value) (x : Nat) (st : List Value) (G : mc_H), mc_ev X 12 162 [.ref x, v1, v2, v3, v4, v5, v6, v7, v8, v9, v10] st G = mc_ev X 12 163 [.ref x, v1, v2, v3, v4, v5, v6, v7, v8, v9, v10] (.ref x :: st) G) ∧
  (∀ (r : Nat) (ls st : List Value) (G : mc_H), mc_ev X 12 163 ls (.ref r :: st) G = (mc_getf G r 2 0).bind (fun v => mc_ev X 12 166 ls (v :: st) G)) ∧
  (∀ (v0 v1 v2 v4 v5 v6 v7 v8 v9 v10 : Value) (x : Int32) (st : List Value) (G : mc_H), mc_ev X 12 166 [v0, v1, v2, .int x, v4, v5, v6, v7, v8, v9, v10] st G = mc_ev X 12 167 [v0, v1, v2, .int x, v4, v5, v6, v7, v8, v9, v10] (.int x :: st) G) ∧
  (∀ (v0 v1 v2 v3 v4 v5 v6 v7 v8 v10 : Value) (x : Int32) (st : List Value) (G : mc_H), mc_ev X 12 167 [v0, v1, v2, v3, v4, v5, v6, v7, v8, .int x, v10] st G = mc_ev X 12 169 [v0, v1, v2, v3, v4, v5, v6, v7, v8, .int x, v10] (.int x :: st) G) ∧
  (∀ (x y : Int32) (ls st : List Value) (G : mc_H), mc_ev X 12 169 ls (.int y :: .int x :: st) G = mc_ev X 12 170 ls (.int (x + y) :: st) G) ∧
  (∀ (v0 v1 v2 v3 v4 v5 v6 v7 v8 v9 : Value) (x : Int32) (st : List Value) (G : mc_H), mc_ev X 12 170 [v0, v1, v2, v3, v4, v5, v6, v7, v8, v9, .int x] st G = mc_ev X 12 172 [v0, v1, v2, v3, v4, v5, v6, v7, v8, v9, .int x] (.int x :: st) G) ∧
  (∀ (x i : Int32) (r : Nat) (ls st : List Value) (G : mc_H), mc_ev X 12 172 ls (.int x :: .int i :: .ref r :: st) G = (mc_setA G 0 r i x).bind (fun G' => mc_ev X 12 173 ls st G')) ∧
  (∀ (v0 v1 v2 v3 v4 v5 v6 v7 v8 v10 : Value) (x : Int32) (st : List Value) (G : mc_H), mc_ev X 12 173 [v0, v1, v2, v3, v4, v5, v6, v7, v8, .int x, v10] st G = mc_ev X 12 176 [v0, v1, v2, v3, v4, v5, v6, v7, v8, .int (x + 1), v10] st G) ∧
  (∀ (ls st : List Value) (G : mc_H), mc_ev X 12 176 ls st G = mc_ev X 12 114 ls st G) ∧
  (∀ (ls : List Value) (G : mc_H), mc_ev X 12 179 ls [] G = some (none, G)) := ⟨fun v0 v2 v3 v4 v5 v6 v7 v8 v9 v10 x st G => ev_aload_n rfl rfl,
  fun v0 v1 v3 v4 v5 v6 v7 v8 v9 v10 x st G => ev_iload_n rfl rfl,
  fun a0 r ls st G hr hG => ev_virt (As := [.int a0]) rfl rfl rfl rfl rfl rfl hr hG,
  fun v0 v1 v2 v3 v4 v5 v6 v7 v8 v9 v10 x st G => ev_istore_n (X := X) (k := 12) (pc := 5) (ls := [v0, v1, v2, v3, v4, v5, v6, v7, v8, v9, v10]) (st := st) (G := G) (j := 3) (x := x) rfl (Nat.le_of_ble_eq_true rfl),
  fun ls st G => ev_iconst rfl rfl,
  fun v0 v1 v2 v3 v4 v5 v6 v7 v8 v9 v10 x st G => ev_istore (X := X) (k := 12) (pc := 7) (ls := [v0, v1, v2, v3, v4, v5, v6, v7, v8, v9, v10]) (st := st) (G := G) (j := 4) (x := x) rfl (Nat.le_of_ble_eq_true rfl),
  fun ls st G => ev_iconst rfl rfl,
  fun v0 v1 v2 v3 v4 v5 v6 v7 v8 v9 v10 x st G => ev_istore (X := X) (k := 12) (pc := 10) (ls := [v0, v1, v2, v3, v4, v5, v6, v7, v8, v9, v10]) (st := st) (G := G) (j := 5) (x := x) rfl (Nat.le_of_ble_eq_true rfl),
  fun ls st G => ev_iconst rfl rfl,
  fun v0 v1 v2 v3 v4 v5 v6 v7 v8 v9 v10 x st G => ev_istore (X := X) (k := 12) (pc := 13) (ls := [v0, v1, v2, v3, v4, v5, v6, v7, v8, v9, v10]) (st := st) (G := G) (j := 6) (x := x) rfl (Nat.le_of_ble_eq_true rfl),
  fun ls st G => ev_iconst rfl rfl,
  fun v0 v1 v2 v3 v4 v5 v6 v7 v8 v9 v10 x st G => ev_istore (X := X) (k := 12) (pc := 16) (ls := [v0, v1, v2, v3, v4, v5, v6, v7, v8, v9, v10]) (st := st) (G := G) (j := 7) (x := x) rfl (Nat.le_of_ble_eq_true rfl),
  fun ls st G => ev_iconst rfl rfl,
  fun v0 v1 v2 v3 v4 v5 v6 v7 v8 v9 v10 x st G => ev_istore (X := X) (k := 12) (pc := 19) (ls := [v0, v1, v2, v3, v4, v5, v6, v7, v8, v9, v10]) (st := st) (G := G) (j := 8) (x := x) rfl (Nat.le_of_ble_eq_true rfl),
  fun ls st G => ev_iconst rfl rfl,
  fun v0 v1 v2 v3 v4 v5 v6 v7 v8 v9 v10 x st G => ev_istore (X := X) (k := 12) (pc := 22) (ls := [v0, v1, v2, v3, v4, v5, v6, v7, v8, v9, v10]) (st := st) (G := G) (j := 9) (x := x) rfl (Nat.le_of_ble_eq_true rfl),
  fun v0 v2 v3 v4 v5 v6 v7 v8 v9 v10 x st G => ev_aload_n rfl rfl,
  fun r ls st G => ev_getfield rfl,
  fun r ls st G => ev_getfield rfl,
  fun x y ls st G => ev_br rfl rfl,
  fun v0 v2 v3 v4 v5 v6 v7 v8 v9 v10 x st G => ev_aload_n rfl rfl,
  fun v0 v1 v2 v3 v4 v5 v6 v7 v8 v10 x st G => ev_iload rfl rfl,
  fun v0 v1 v3 v4 v5 v6 v7 v8 v9 v10 x st G => ev_iload_n rfl rfl,
  fun a0 a1 r ls st G hr hG => ev_virt (As := [.int a0, .int a1]) rfl rfl rfl rfl rfl rfl hr hG,
  fun x ls st G => ev_br rfl rfl,
  fun v0 v1 v2 v3 v5 v6 v7 v8 v9 v10 x st G => ev_iload rfl rfl,
  fun v0 v2 v3 v4 v5 v6 v7 v8 v9 v10 x st G => ev_aload_n rfl rfl,
  fun v0 v1 v2 v3 v4 v5 v6 v7 v8 v10 x st G => ev_iload rfl rfl,
  fun a0 r ls st G hr hG => ev_virt (As := [.int a0]) rfl rfl rfl rfl rfl rfl hr hG,
  fun x y ls st G => ev_iadd rfl,
  fun v0 v1 v2 v3 v4 v5 v6 v7 v8 v9 v10 x st G => ev_istore (X := X) (k := 12) (pc := 55) (ls := [v0, v1, v2, v3, v4, v5, v6, v7, v8, v9, v10]) (st := st) (G := G) (j := 4) (x := x) rfl (Nat.le_of_ble_eq_true rfl),
  fun v0 v2 v3 v4 v5 v6 v7 v8 v9 v10 x st G => ev_aload_n rfl rfl,
  fun r ls st G => ev_getfield rfl,
  fun r ls st G => ev_getfield rfl,
  fun v0 v1 v2 v3 v4 v5 v6 v7 v8 v10 x st G => ev_iload rfl rfl,
  fun i r ls st G => ev_iaload rfl,
  fun v0 v1 v3 v4 v5 v6 v7 v8 v9 v10 x st G => ev_iload_n rfl rfl,
  fun x y ls st G => ev_br rfl rfl,
  fun v0 v1 v2 v3 v4 v5 v6 v8 v9 v10 x st G => ev_iload rfl rfl,
  fun v0 v1 v2 v3 v4 v5 v6 v7 v8 v9 v10 x st G => ev_istore (X := X) (k := 12) (pc := 73) (ls := [v0, v1, v2, v3, v4, v5, v6, v7, v8, v9, v10]) (st := st) (G := G) (j := 5) (x := x) rfl (Nat.le_of_ble_eq_true rfl),
  fun v0 v1 v2 v3 v4 v5 v6 v7 v9 v10 x st G => ev_iload rfl rfl,
  fun v0 v1 v2 v3 v4 v5 v6 v7 v8 v9 v10 x st G => ev_istore (X := X) (k := 12) (pc := 77) (ls := [v0, v1, v2, v3, v4, v5, v6, v7, v8, v9, v10]) (st := st) (G := G) (j := 6) (x := x) rfl (Nat.le_of_ble_eq_true rfl),
  fun v0 v2 v3 v4 v5 v6 v7 v8 v9 v10 x st G => ev_aload_n rfl rfl,
  fun v0 v2 v3 v4 v5 v6 v7 v8 v9 v10 x st G => ev_aload_n rfl rfl,
  fun r ls st G => ev_getfield rfl,
  fun r ls st G => ev_getfield rfl,
  fun v0 v1 v2 v3 v4 v5 v6 v7 v8 v10 x st G => ev_iload rfl rfl,
  fun i r ls st G => ev_iaload rfl,
  fun a0 r ls st G hr hG => ev_virt (As := [.int a0]) rfl rfl rfl rfl rfl rfl hr hG,
  fun v0 v1 v2 v3 v4 v5 v6 v7 v8 v9 v10 x st G => ev_istore (X := X) (k := 12) (pc := 93) (ls := [v0, v1, v2, v3, v4, v5, v6, v7, v8, v9, v10]) (st := st) (G := G) (j := 7) (x := x) rfl (Nat.le_of_ble_eq_true rfl),
  fun ls st G => ev_iconst rfl rfl,
  fun v0 v2 v3 v4 v5 v6 v7 v8 v9 v10 x st G => ev_aload_n rfl rfl,
  fun v0 v1 v2 v3 v4 v5 v6 v7 v8 v10 x st G => ev_iload rfl rfl,
  fun a0 r ls st G hr hG => ev_virt (As := [.int a0]) rfl rfl rfl rfl rfl rfl hr hG,
  fun x y ls st G => ev_imul rfl,
  fun v0 v1 v2 v3 v4 v5 v6 v7 v8 v9 v10 x st G => ev_istore (X := X) (k := 12) (pc := 103) (ls := [v0, v1, v2, v3, v4, v5, v6, v7, v8, v9, v10]) (st := st) (G := G) (j := 8) (x := x) rfl (Nat.le_of_ble_eq_true rfl),
  fun v0 v1 v2 v3 v4 v5 v6 v7 v8 v10 x st G => ev_iinc (X := X) (k := 12) (pc := 105) (ls := [v0, v1, v2, v3, v4, v5, v6, v7, v8, .int x, v10]) (st := st) (G := G) (j := 9) (n := 1) (x := x) (v := 1) rfl rfl rfl,
  fun ls st G => ev_goto rfl rfl,
  fun ls st G => ev_iconst rfl rfl,
  fun v0 v1 v2 v3 v4 v5 v6 v7 v8 v9 v10 x st G => ev_istore (X := X) (k := 12) (pc := 112) (ls := [v0, v1, v2, v3, v4, v5, v6, v7, v8, v9, v10]) (st := st) (G := G) (j := 9) (x := x) rfl (Nat.le_of_ble_eq_true rfl),
  fun v0 v1 v2 v4 v5 v6 v7 v8 v9 v10 x st G => ev_iload_n rfl rfl,
  fun x y ls st G => ev_br rfl rfl,
  fun v1 v2 v3 v4 v5 v6 v7 v8 v9 v10 x st G => ev_aload_n rfl rfl,
  fun r ls st G => ev_getfield rfl,
  fun v0 v1 v2 v3 v4 v5 v6 v7 v8 v10 x st G => ev_iload rfl rfl,
  fun i r ls st G => ev_iaload rfl,
  fun v0 v1 v2 v3 v5 v6 v7 v8 v9 v10 x st G => ev_iload rfl rfl,
  fun x y ls st G => ev_iadd rfl,
  fun v0 v1 v2 v3 v4 v5 v6 v7 v8 v9 v10 x st G => ev_istore (X := X) (k := 12) (pc := 130) (ls := [v0, v1, v2, v3, v4, v5, v6, v7, v8, v9, v10]) (st := st) (G := G) (j := 10) (x := x) rfl (Nat.le_of_ble_eq_true rfl),
  fun v0 v1 v2 v3 v4 v5 v6 v7 v8 v10 x st G => ev_iload rfl rfl,
  fun v0 v1 v2 v3 v4 v6 v7 v8 v9 v10 x st G => ev_iload rfl rfl,
  fun x y ls st G => ev_iand rfl,
  fun x ls st G => ev_br rfl rfl,
  fun v0 v1 v2 v3 v4 v5 v6 v7 v8 v9 x st G => ev_iload rfl rfl,
  fun v0 v1 v2 v3 v4 v5 v7 v8 v9 v10 x st G => ev_iload rfl rfl,
  fun x y ls st G => ev_isub rfl,
  fun v0 v1 v2 v3 v4 v5 v6 v7 v8 v9 v10 x st G => ev_istore (X := X) (k := 12) (pc := 145) (ls := [v0, v1, v2, v3, v4, v5, v6, v7, v8, v9, v10]) (st := st) (G := G) (j := 10) (x := x) rfl (Nat.le_of_ble_eq_true rfl),
  fun v0 v1 v2 v3 v4 v5 v6 v7 v8 v10 x st G => ev_iload rfl rfl,
  fun v0 v1 v2 v3 v4 v5 v6 v8 v9 v10 x st G => ev_iload rfl rfl,
  fun x y ls st G => ev_iand rfl,
  fun x ls st G => ev_br rfl rfl,
  fun v0 v1 v2 v3 v4 v5 v6 v7 v8 v9 x st G => ev_iload rfl rfl,
  fun v0 v1 v2 v3 v4 v5 v6 v7 v9 v10 x st G => ev_iload rfl rfl,
  fun x y ls st G => ev_isub rfl,
  fun v0 v1 v2 v3 v4 v5 v6 v7 v8 v9 v10 x st G => ev_istore (X := X) (k := 12) (pc := 160) (ls := [v0, v1, v2, v3, v4, v5, v6, v7, v8, v9, v10]) (st := st) (G := G) (j := 10) (x := x) rfl (Nat.le_of_ble_eq_true rfl),
  fun v1 v2 v3 v4 v5 v6 v7 v8 v9 v10 x st G => ev_aload_n rfl rfl,
  fun r ls st G => ev_getfield rfl,
  fun v0 v1 v2 v4 v5 v6 v7 v8 v9 v10 x st G => ev_iload_n rfl rfl,
  fun v0 v1 v2 v3 v4 v5 v6 v7 v8 v10 x st G => ev_iload rfl rfl,
  fun x y ls st G => ev_iadd rfl,
  fun v0 v1 v2 v3 v4 v5 v6 v7 v8 v9 x st G => ev_iload rfl rfl,
  fun x i r ls st G => ev_iastore rfl,
  fun v0 v1 v2 v3 v4 v5 v6 v7 v8 v10 x st G => ev_iinc (X := X) (k := 12) (pc := 173) (ls := [v0, v1, v2, v3, v4, v5, v6, v7, v8, .int x, v10]) (st := st) (G := G) (j := 9) (n := 1) (x := x) (v := 1) rfl rfl rfl,
  fun ls st G => ev_goto rfl rfl,
  fun ls G => ev_return rfl rfl⟩
theorem e_13 {X : mc_X} : (∀ (v0 : Value) (x : Int32) (st : List Value) (G : mc_H), mc_ev X 13 0 [v0, .int x] st G = mc_ev X 13 1 [v0, .int x] (.int x :: st) G) ∧
  (∀ (v1 : Value) (x : Nat) (st : List Value) (G : mc_H), mc_ev X 13 1 [.ref x, v1] st G = mc_ev X 13 2 [.ref x, v1] (.ref x :: st) G) ∧
  (∀ (r : Nat) (ls st : List Value) (G : mc_H), mc_ev X 13 2 ls (.ref r :: st) G = (mc_getf G r 2 3).bind (fun v => mc_ev X 13 5 ls (v :: st) G)) ∧
  (∀ (x y : Int32) (ls st : List Value) (G : mc_H), mc_ev X 13 5 ls (.int y :: .int x :: st) G = mc_ev X 13 6 ls (.int (x &&& y) :: st) G) ∧
  (∀ (v1 : Value) (x : Nat) (st : List Value) (G : mc_H), mc_ev X 13 6 [.ref x, v1] st G = mc_ev X 13 7 [.ref x, v1] (.ref x :: st) G) ∧
  (∀ (r : Nat) (ls st : List Value) (G : mc_H), mc_ev X 13 7 ls (.ref r :: st) G = (mc_getf G r 2 4).bind (fun v => mc_ev X 13 10 ls (v :: st) G)) ∧
  (∀ (x y : Int32) (ls st : List Value) (G : mc_H), mc_ev X 13 10 ls (.int y :: .int x :: st) G = if x = y then mc_ev X 13 13 ls st G else mc_ev X 13 17 ls st G) ∧
  (∀ (ls st : List Value) (G : mc_H), mc_ev X 13 13 ls st G = mc_ev X 13 14 ls (.int 1 :: st) G) ∧
  (∀ (ls st : List Value) (G : mc_H), mc_ev X 13 14 ls st G = mc_ev X 13 18 ls st G) ∧
  (∀ (ls st : List Value) (G : mc_H), mc_ev X 13 17 ls st G = mc_ev X 13 18 ls (.int 0 :: st) G) ∧
  (∀ (v : Int32) (ls : List Value) (G : mc_H), (v = 0 ∨ v = 1) → mc_ev X 13 18 ls [.int v] G = some (some (.int v), G)) := ⟨fun v0 x st G => ev_iload_n rfl rfl,
  fun v1 x st G => ev_aload_n rfl rfl,
  fun r ls st G => ev_getfield rfl,
  fun x y ls st G => ev_iand rfl,
  fun v1 x st G => ev_aload_n rfl rfl,
  fun r ls st G => ev_getfield rfl,
  fun x y ls st G => ev_br rfl rfl,
  fun ls st G => ev_iconst rfl rfl,
  fun ls st G => ev_goto rfl rfl,
  fun ls st G => ev_iconst rfl rfl,
  fun v ls G hv => ev_zreturn rfl rfl hv⟩
theorem h_14_4 {X : mc_X} : ∀ (v0 v1 v2 : Value) (x : Int32) (st : List Value) (G : mc_H), mc_ev X 14 4 [v0, v1, v2, .int x] st G = mc_ev X 14 5 [v0, v1, v2, .int x] (.int x :: st) G := fun v0 v1 v2 x st G => ev_iload_n rfl rfl
theorem e_14 {X : mc_X} : (∀ (ls st : List Value) (G : mc_H), mc_ev X 14 0 ls st G = mc_ev X 14 1 ls (.int 0 :: st) G) ∧
  (∀ (v0 v1 v2 v3 : Value) (x : Int32) (st : List Value) (G : mc_H), mc_ev X 14 1 [v0, v1, v2, v3] (.int x :: st) G = mc_ev X 14 2 [v0, v1, .int x, v3] st G) ∧
  (∀ (ls st : List Value) (G : mc_H), mc_ev X 14 2 ls st G = mc_ev X 14 3 ls (.int 0 :: st) G) ∧
  (∀ (v0 v1 v2 v3 : Value) (x : Int32) (st : List Value) (G : mc_H), mc_ev X 14 3 [v0, v1, v2, v3] (.int x :: st) G = mc_ev X 14 4 [v0, v1, v2, .int x] st G) ∧
  (∀ (v1 v2 v3 : Value) (x : Nat) (st : List Value) (G : mc_H), mc_ev X 14 5 [.ref x, v1, v2, v3] st G = mc_ev X 14 6 [.ref x, v1, v2, v3] (.ref x :: st) G) ∧
  (∀ (r : Nat) (ls st : List Value) (G : mc_H), mc_ev X 14 6 ls (.ref r :: st) G = (mc_getf G r 2 2).bind (fun v => mc_ev X 14 9 ls (v :: st) G)) ∧
  (∀ (x y : Int32) (ls st : List Value) (G : mc_H), mc_ev X 14 9 ls (.int y :: .int x :: st) G = if x < y then mc_ev X 14 12 ls st G else mc_ev X 14 39 ls st G) ∧
  (∀ (v1 v2 v3 : Value) (x : Nat) (st : List Value) (G : mc_H), mc_ev X 14 12 [.ref x, v1, v2, v3] st G = mc_ev X 14 13 [.ref x, v1, v2, v3] (.ref x :: st) G) ∧
  (∀ (r : Nat) (ls st : List Value) (G : mc_H), mc_ev X 14 13 ls (.ref r :: st) G = (mc_getf G r 2 0).bind (fun v => mc_ev X 14 16 ls (v :: st) G)) ∧
  (∀ (v0 v1 v2 : Value) (x : Int32) (st : List Value) (G : mc_H), mc_ev X 14 16 [v0, v1, v2, .int x] st G = mc_ev X 14 17 [v0, v1, v2, .int x] (.int x :: st) G) ∧
  (∀ (i : Int32) (r : Value) (ls st : List Value) (G : mc_H), mc_ev X 14 17 ls (.int i :: r :: st) G = (mc_getA X G 0 r i).bind (fun x => mc_ev X 14 18 ls (.int x :: st) G)) ∧
  (∀ (v0 v2 v3 : Value) (x : Int32) (st : List Value) (G : mc_H), mc_ev X 14 18 [v0, .int x, v2, v3] st G = mc_ev X 14 19 [v0, .int x, v2, v3] (.int x :: st) G) ∧
  (∀ (x y : Int32) (ls st : List Value) (G : mc_H), mc_ev X 14 19 ls (.int y :: .int x :: st) G = if x = y then mc_ev X 14 22 ls st G else mc_ev X 14 33 ls st G) ∧
  (∀ (v1 v2 v3 : Value) (x : Nat) (st : List Value) (G : mc_H), mc_ev X 14 22 [.ref x, v1, v2, v3] st G = mc_ev X 14 23 [.ref x, v1, v2, v3] (.ref x :: st) G) ∧
  (∀ (v0 v1 v2 : Value) (x : Int32) (st : List Value) (G : mc_H), mc_ev X 14 23 [v0, v1, v2, .int x] st G = mc_ev X 14 24 [v0, v1, v2, .int x] (.int x :: st) G) ∧
  (∀ (a0 : Int32) (r : Nat) (ls st : List Value) (G : mc_H), st.length ≤ 4 → mc_cls G r = some 2 → mc_ev X 14 24 ls (.int a0 :: .ref r :: st) G = (mc_ev X 13 0 [.ref r, .int a0] [] G).bind (fun q => mc_ev X 14 27 ls (q.1.toList ++ st) q.2)) ∧
  (∀ (x : Int32) (ls st : List Value) (G : mc_H), mc_ev X 14 27 ls (.int x :: st) G = if x = 0 then mc_ev X 14 33 ls st G else mc_ev X 14 30 ls st G) ∧
  (∀ (v0 v1 v3 : Value) (x : Int32) (st : List Value) (G : mc_H), mc_ev X 14 30 [v0, v1, .int x, v3] st G = mc_ev X 14 33 [v0, v1, .int (x + 1), v3] st G) ∧
  (∀ (v0 v1 v2 : Value) (x : Int32) (st : List Value) (G : mc_H), mc_ev X 14 33 [v0, v1, v2, .int x] st G = mc_ev X 14 36 [v0, v1, v2, .int (x + 1)] st G) ∧
  (∀ (ls st : List Value) (G : mc_H), mc_ev X 14 36 ls st G = mc_ev X 14 4 ls st G) ∧
  (∀ (v0 v1 v3 : Value) (x : Int32) (st : List Value) (G : mc_H), mc_ev X 14 39 [v0, v1, .int x, v3] st G = mc_ev X 14 40 [v0, v1, .int x, v3] (.int x :: st) G) ∧
  (∀ (v : Int32) (ls : List Value) (G : mc_H), mc_ev X 14 40 ls [.int v] G = some (some (.int v), G)) := ⟨fun ls st G => ev_iconst rfl rfl,
  fun v0 v1 v2 v3 x st G => ev_istore_n (X := X) (k := 14) (pc := 1) (ls := [v0, v1, v2, v3]) (st := st) (G := G) (j := 2) (x := x) rfl (Nat.le_of_ble_eq_true rfl),
  fun ls st G => ev_iconst rfl rfl,
  fun v0 v1 v2 v3 x st G => ev_istore_n (X := X) (k := 14) (pc := 3) (ls := [v0, v1, v2, v3]) (st := st) (G := G) (j := 3) (x := x) rfl (Nat.le_of_ble_eq_true rfl),
  fun v1 v2 v3 x st G => ev_aload_n rfl rfl,
  fun r ls st G => ev_getfield rfl,
  fun x y ls st G => ev_br rfl rfl,
  fun v1 v2 v3 x st G => ev_aload_n rfl rfl,
  fun r ls st G => ev_getfield rfl,
  fun v0 v1 v2 x st G => ev_iload_n rfl rfl,
  fun i r ls st G => ev_iaload rfl,
  fun v0 v2 v3 x st G => ev_iload_n rfl rfl,
  fun x y ls st G => ev_br rfl rfl,
  fun v1 v2 v3 x st G => ev_aload_n rfl rfl,
  fun v0 v1 v2 x st G => ev_iload_n rfl rfl,
  fun a0 r ls st G hr hG => ev_virt (As := [.int a0]) rfl rfl rfl rfl rfl rfl hr hG,
  fun x ls st G => ev_br rfl rfl,
  fun v0 v1 v3 x st G => ev_iinc (X := X) (k := 14) (pc := 30) (ls := [v0, v1, .int x, v3]) (st := st) (G := G) (j := 2) (n := 1) (x := x) (v := 1) rfl rfl rfl,
  fun v0 v1 v2 x st G => ev_iinc (X := X) (k := 14) (pc := 33) (ls := [v0, v1, v2, .int x]) (st := st) (G := G) (j := 3) (n := 1) (x := x) (v := 1) rfl rfl rfl,
  fun ls st G => ev_goto rfl rfl,
  fun v0 v1 v3 x st G => ev_iload_n rfl rfl,
  fun v ls G => ev_ireturn rfl rfl⟩
theorem h_15_5 {X : mc_X} : ∀ (v0 v1 v2 v3 : Value) (x : Int32) (st : List Value) (G : mc_H), mc_ev X 15 5 [v0, v1, v2, v3, .int x] st G = mc_ev X 15 7 [v0, v1, v2, v3, .int x] (.int x :: st) G := fun v0 v1 v2 v3 x st G => ev_iload rfl rfl
theorem e_15 {X : mc_X} : (∀ (ls st : List Value) (G : mc_H), mc_ev X 15 0 ls st G = mc_ev X 15 1 ls (.int 0 :: st) G) ∧
  (∀ (v0 v1 v2 v3 v4 : Value) (x : Int32) (st : List Value) (G : mc_H), mc_ev X 15 1 [v0, v1, v2, v3, v4] (.int x :: st) G = mc_ev X 15 2 [v0, v1, v2, .int x, v4] st G) ∧
  (∀ (ls st : List Value) (G : mc_H), mc_ev X 15 2 ls st G = mc_ev X 15 3 ls (.int 0 :: st) G) ∧
  (∀ (v0 v1 v2 v3 v4 : Value) (x : Int32) (st : List Value) (G : mc_H), mc_ev X 15 3 [v0, v1, v2, v3, v4] (.int x :: st) G = mc_ev X 15 5 [v0, v1, v2, v3, .int x] st G) ∧
  (∀ (v1 v2 v3 v4 : Value) (x : Nat) (st : List Value) (G : mc_H), mc_ev X 15 7 [.ref x, v1, v2, v3, v4] st G = mc_ev X 15 8 [.ref x, v1, v2, v3, v4] (.ref x :: st) G) ∧
  (∀ (r : Nat) (ls st : List Value) (G : mc_H), mc_ev X 15 8 ls (.ref r :: st) G = (mc_getf G r 2 2).bind (fun v => mc_ev X 15 11 ls (v :: st) G)) ∧
  (∀ (x y : Int32) (ls st : List Value) (G : mc_H), mc_ev X 15 11 ls (.int y :: .int x :: st) G = if x < y then mc_ev X 15 14 ls st G else mc_ev X 15 51 ls st G) ∧
  (∀ (v1 v2 v3 v4 : Value) (x : Nat) (st : List Value) (G : mc_H), mc_ev X 15 14 [.ref x, v1, v2, v3, v4] st G = mc_ev X 15 15 [.ref x, v1, v2, v3, v4] (.ref x :: st) G) ∧
  (∀ (r : Nat) (ls st : List Value) (G : mc_H), mc_ev X 15 15 ls (.ref r :: st) G = (mc_getf G r 2 0).bind (fun v => mc_ev X 15 18 ls (v :: st) G)) ∧
  (∀ (v0 v1 v2 v3 : Value) (x : Int32) (st : List Value) (G : mc_H), mc_ev X 15 18 [v0, v1, v2, v3, .int x] st G = mc_ev X 15 20 [v0, v1, v2, v3, .int x] (.int x :: st) G) ∧
  (∀ (i : Int32) (r : Value) (ls st : List Value) (G : mc_H), mc_ev X 15 20 ls (.int i :: r :: st) G = (mc_getA X G 0 r i).bind (fun x => mc_ev X 15 21 ls (.int x :: st) G)) ∧
  (∀ (v0 v2 v3 v4 : Value) (x : Int32) (st : List Value) (G : mc_H), mc_ev X 15 21 [v0, .int x, v2, v3, v4] st G = mc_ev X 15 22 [v0, .int x, v2, v3, v4] (.int x :: st) G) ∧
  (∀ (x y : Int32) (ls st : List Value) (G : mc_H), mc_ev X 15 22 ls (.int y :: .int x :: st) G = if x = y then mc_ev X 15 25 ls st G else mc_ev X 15 45 ls st G) ∧
  (∀ (v1 v2 v3 v4 : Value) (x : Nat) (st : List Value) (G : mc_H), mc_ev X 15 25 [.ref x, v1, v2, v3, v4] st G = mc_ev X 15 26 [.ref x, v1, v2, v3, v4] (.ref x :: st) G) ∧
  (∀ (v0 v1 v2 v3 : Value) (x : Int32) (st : List Value) (G : mc_H), mc_ev X 15 26 [v0, v1, v2, v3, .int x] st G = mc_ev X 15 28 [v0, v1, v2, v3, .int x] (.int x :: st) G) ∧
  (∀ (a0 : Int32) (r : Nat) (ls st : List Value) (G : mc_H), st.length ≤ 4 → mc_cls G r = some 2 → mc_ev X 15 28 ls (.int a0 :: .ref r :: st) G = (mc_ev X 13 0 [.ref r, .int a0] [] G).bind (fun q => mc_ev X 15 31 ls (q.1.toList ++ st) q.2)) ∧
  (∀ (x : Int32) (ls st : List Value) (G : mc_H), mc_ev X 15 31 ls (.int x :: st) G = if x = 0 then mc_ev X 15 45 ls st G else mc_ev X 15 34 ls st G) ∧
  (∀ (v0 v1 v2 v4 : Value) (x : Int32) (st : List Value) (G : mc_H), mc_ev X 15 34 [v0, v1, v2, .int x, v4] st G = mc_ev X 15 35 [v0, v1, v2, .int x, v4] (.int x :: st) G) ∧
  (∀ (v0 v1 v3 v4 : Value) (x : Int32) (st : List Value) (G : mc_H), mc_ev X 15 35 [v0, v1, .int x, v3, v4] st G = mc_ev X 15 36 [v0, v1, .int x, v3, v4] (.int x :: st) G) ∧
  (∀ (x y : Int32) (ls st : List Value) (G : mc_H), mc_ev X 15 36 ls (.int y :: .int x :: st) G = if x = y then mc_ev X 15 39 ls st G else mc_ev X 15 42 ls st G) ∧
  (∀ (v0 v1 v2 v3 : Value) (x : Int32) (st : List Value) (G : mc_H), mc_ev X 15 39 [v0, v1, v2, v3, .int x] st G = mc_ev X 15 41 [v0, v1, v2, v3, .int x] (.int x :: st) G) ∧
  (∀ (v : Int32) (ls : List Value) (G : mc_H), mc_ev X 15 41 ls [.int v] G = some (some (.int v), G)) ∧
  (∀ (v0 v1 v2 v4 : Value) (x : Int32) (st : List Value) (G : mc_H), mc_ev X 15 42 [v0, v1, v2, .int x, v4] st G = mc_ev X 15 45 [v0, v1, v2, .int (x + 1), v4] st G) ∧
  (∀ (v0 v1 v2 v3 : Value) (x : Int32) (st : List Value) (G : mc_H), mc_ev X 15 45 [v0, v1, v2, v3, .int x] st G = mc_ev X 15 48 [v0, v1, v2, v3, .int (x + 1)] st G) ∧
  (∀ (ls st : List Value) (G : mc_H), mc_ev X 15 48 ls st G = mc_ev X 15 5 ls st G) ∧
  (∀ (ls st : List Value) (G : mc_H), mc_ev X 15 51 ls st G = mc_ev X 15 53 ls (.int (-9) :: st) G) ∧
  (∀ (v : Int32) (ls : List Value) (G : mc_H), mc_ev X 15 53 ls [.int v] G = some (some (.int v), G)) := ⟨fun ls st G => ev_iconst rfl rfl,
  fun v0 v1 v2 v3 v4 x st G => ev_istore_n (X := X) (k := 15) (pc := 1) (ls := [v0, v1, v2, v3, v4]) (st := st) (G := G) (j := 3) (x := x) rfl (Nat.le_of_ble_eq_true rfl),
  fun ls st G => ev_iconst rfl rfl,
  fun v0 v1 v2 v3 v4 x st G => ev_istore (X := X) (k := 15) (pc := 3) (ls := [v0, v1, v2, v3, v4]) (st := st) (G := G) (j := 4) (x := x) rfl (Nat.le_of_ble_eq_true rfl),
  fun v1 v2 v3 v4 x st G => ev_aload_n rfl rfl,
  fun r ls st G => ev_getfield rfl,
  fun x y ls st G => ev_br rfl rfl,
  fun v1 v2 v3 v4 x st G => ev_aload_n rfl rfl,
  fun r ls st G => ev_getfield rfl,
  fun v0 v1 v2 v3 x st G => ev_iload rfl rfl,
  fun i r ls st G => ev_iaload rfl,
  fun v0 v2 v3 v4 x st G => ev_iload_n rfl rfl,
  fun x y ls st G => ev_br rfl rfl,
  fun v1 v2 v3 v4 x st G => ev_aload_n rfl rfl,
  fun v0 v1 v2 v3 x st G => ev_iload rfl rfl,
  fun a0 r ls st G hr hG => ev_virt (As := [.int a0]) rfl rfl rfl rfl rfl rfl hr hG,
  fun x ls st G => ev_br rfl rfl,
  fun v0 v1 v2 v4 x st G => ev_iload_n rfl rfl,
  fun v0 v1 v3 v4 x st G => ev_iload_n rfl rfl,
  fun x y ls st G => ev_br rfl rfl,
  fun v0 v1 v2 v3 x st G => ev_iload rfl rfl,
  fun v ls G => ev_ireturn rfl rfl,
  fun v0 v1 v2 v4 x st G => ev_iinc (X := X) (k := 15) (pc := 42) (ls := [v0, v1, v2, .int x, v4]) (st := st) (G := G) (j := 3) (n := 1) (x := x) (v := 1) rfl rfl rfl,
  fun v0 v1 v2 v3 x st G => ev_iinc (X := X) (k := 15) (pc := 45) (ls := [v0, v1, v2, v3, .int x]) (st := st) (G := G) (j := 4) (n := 1) (x := x) (v := 1) rfl rfl rfl,
  fun ls st G => ev_goto rfl rfl,
  fun ls st G => ev_bipush rfl rfl,
  fun v ls G => ev_ireturn rfl rfl⟩
theorem h_16_5 {X : mc_X} : ∀ (v0 v1 v2 : Value) (x : Int32) (st : List Value) (G : mc_H), mc_ev X 16 5 [v0, v1, v2, .int x] st G = mc_ev X 16 6 [v0, v1, v2, .int x] (.int x :: st) G := fun v0 v1 v2 x st G => ev_iload_n rfl rfl
theorem e_16 {X : mc_X} : (∀ (ls st : List Value) (G : mc_H), mc_ev X 16 0 ls st G = mc_ev X 16 2 ls (.int 10000000 :: st) G) ∧
  (∀ (v0 v1 v2 v3 : Value) (x : Int32) (st : List Value) (G : mc_H), mc_ev X 16 2 [v0, v1, v2, v3] (.int x :: st) G = mc_ev X 16 3 [v0, v1, .int x, v3] st G) ∧
  (∀ (ls st : List Value) (G : mc_H), mc_ev X 16 3 ls st G = mc_ev X 16 4 ls (.int 0 :: st) G) ∧
  (∀ (v0 v1 v2 v3 : Value) (x : Int32) (st : List Value) (G : mc_H), mc_ev X 16 4 [v0, v1, v2, v3] (.int x :: st) G = mc_ev X 16 5 [v0, v1, v2, .int x] st G) ∧
  (∀ (v1 v2 v3 : Value) (x : Nat) (st : List Value) (G : mc_H), mc_ev X 16 6 [.ref x, v1, v2, v3] st G = mc_ev X 16 7 [.ref x, v1, v2, v3] (.ref x :: st) G) ∧
  (∀ (r : Nat) (ls st : List Value) (G : mc_H), mc_ev X 16 7 ls (.ref r :: st) G = (mc_getf G r 2 2).bind (fun v => mc_ev X 16 10 ls (v :: st) G)) ∧
  (∀ (x y : Int32) (ls st : List Value) (G : mc_H), mc_ev X 16 10 ls (.int y :: .int x :: st) G = if x < y then mc_ev X 16 13 ls st G else mc_ev X 16 54 ls st G) ∧
  (∀ (v1 v2 v3 : Value) (x : Nat) (st : List Value) (G : mc_H), mc_ev X 16 13 [.ref x, v1, v2, v3] st G = mc_ev X 16 14 [.ref x, v1, v2, v3] (.ref x :: st) G) ∧
  (∀ (r : Nat) (ls st : List Value) (G : mc_H), mc_ev X 16 14 ls (.ref r :: st) G = (mc_getf G r 2 0).bind (fun v => mc_ev X 16 17 ls (v :: st) G)) ∧
  (∀ (v0 v1 v2 : Value) (x : Int32) (st : List Value) (G : mc_H), mc_ev X 16 17 [v0, v1, v2, .int x] st G = mc_ev X 16 18 [v0, v1, v2, .int x] (.int x :: st) G) ∧
  (∀ (i : Int32) (r : Value) (ls st : List Value) (G : mc_H), mc_ev X 16 18 ls (.int i :: r :: st) G = (mc_getA X G 0 r i).bind (fun x => mc_ev X 16 19 ls (.int x :: st) G)) ∧
  (∀ (v0 v2 v3 : Value) (x : Int32) (st : List Value) (G : mc_H), mc_ev X 16 19 [v0, .int x, v2, v3] st G = mc_ev X 16 20 [v0, .int x, v2, v3] (.int x :: st) G) ∧
  (∀ (x y : Int32) (ls st : List Value) (G : mc_H), mc_ev X 16 20 ls (.int y :: .int x :: st) G = if y < x then mc_ev X 16 23 ls st G else mc_ev X 16 48 ls st G) ∧
  (∀ (v1 v2 v3 : Value) (x : Nat) (st : List Value) (G : mc_H), mc_ev X 16 23 [.ref x, v1, v2, v3] st G = mc_ev X 16 24 [.ref x, v1, v2, v3] (.ref x :: st) G) ∧
  (∀ (r : Nat) (ls st : List Value) (G : mc_H), mc_ev X 16 24 ls (.ref r :: st) G = (mc_getf G r 2 0).bind (fun v => mc_ev X 16 27 ls (v :: st) G)) ∧
  (∀ (v0 v1 v2 : Value) (x : Int32) (st : List Value) (G : mc_H), mc_ev X 16 27 [v0, v1, v2, .int x] st G = mc_ev X 16 28 [v0, v1, v2, .int x] (.int x :: st) G) ∧
  (∀ (i : Int32) (r : Value) (ls st : List Value) (G : mc_H), mc_ev X 16 28 ls (.int i :: r :: st) G = (mc_getA X G 0 r i).bind (fun x => mc_ev X 16 29 ls (.int x :: st) G)) ∧
  (∀ (v0 v1 v3 : Value) (x : Int32) (st : List Value) (G : mc_H), mc_ev X 16 29 [v0, v1, .int x, v3] st G = mc_ev X 16 30 [v0, v1, .int x, v3] (.int x :: st) G) ∧
  (∀ (x y : Int32) (ls st : List Value) (G : mc_H), mc_ev X 16 30 ls (.int y :: .int x :: st) G = if x < y then mc_ev X 16 33 ls st G else mc_ev X 16 48 ls st G) ∧
  (∀ (v1 v2 v3 : Value) (x : Nat) (st : List Value) (G : mc_H), mc_ev X 16 33 [.ref x, v1, v2, v3] st G = mc_ev X 16 34 [.ref x, v1, v2, v3] (.ref x :: st) G) ∧
  (∀ (v0 v1 v2 : Value) (x : Int32) (st : List Value) (G : mc_H), mc_ev X 16 34 [v0, v1, v2, .int x] st G = mc_ev X 16 35 [v0, v1, v2, .int x] (.int x :: st) G) ∧
  (∀ (a0 : Int32) (r : Nat) (ls st : List Value) (G : mc_H), st.length ≤ 4 → mc_cls G r = some 2 → mc_ev X 16 35 ls (.int a0 :: .ref r :: st) G = (mc_ev X 13 0 [.ref r, .int a0] [] G).bind (fun q => mc_ev X 16 38 ls (q.1.toList ++ st) q.2)) ∧
  (∀ (x : Int32) (ls st : List Value) (G : mc_H), mc_ev X 16 38 ls (.int x :: st) G = if x = 0 then mc_ev X 16 48 ls st G else mc_ev X 16 41 ls st G) ∧
  (∀ (v1 v2 v3 : Value) (x : Nat) (st : List Value) (G : mc_H), mc_ev X 16 41 [.ref x, v1, v2, v3] st G = mc_ev X 16 42 [.ref x, v1, v2, v3] (.ref x :: st) G) ∧
  (∀ (r : Nat) (ls st : List Value) (G : mc_H), mc_ev X 16 42 ls (.ref r :: st) G = (mc_getf G r 2 0).bind (fun v => mc_ev X 16 45 ls (v :: st) G)) ∧
  (∀ (v0 v1 v2 : Value) (x : Int32) (st : List Value) (G : mc_H), mc_ev X 16 45 [v0, v1, v2, .int x] st G = mc_ev X 16 46 [v0, v1, v2, .int x] (.int x :: st) G) ∧
  (∀ (i : Int32) (r : Value) (ls st : List Value) (G : mc_H), mc_ev X 16 46 ls (.int i :: r :: st) G = (mc_getA X G 0 r i).bind (fun x => mc_ev X 16 47 ls (.int x :: st) G)) ∧
  (∀ (v0 v1 v2 v3 : Value) (x : Int32) (st : List Value) (G : mc_H), mc_ev X 16 47 [v0, v1, v2, v3] (.int x :: st) G = mc_ev X 16 48 [v0, v1, .int x, v3] st G) ∧
  (∀ (v0 v1 v2 : Value) (x : Int32) (st : List Value) (G : mc_H), mc_ev X 16 48 [v0, v1, v2, .int x] st G = mc_ev X 16 51 [v0, v1, v2, .int (x + 1)] st G) ∧
  (∀ (ls st : List Value) (G : mc_H), mc_ev X 16 51 ls st G = mc_ev X 16 5 ls st G) ∧
  (∀ (v0 v1 v3 : Value) (x : Int32) (st : List Value) (G : mc_H), mc_ev X 16 54 [v0, v1, .int x, v3] st G = mc_ev X 16 55 [v0, v1, .int x, v3] (.int x :: st) G) ∧
  (∀ (ls st : List Value) (G : mc_H), mc_ev X 16 55 ls st G = mc_ev X 16 57 ls (.int 10000000 :: st) G) ∧
  (∀ (x y : Int32) (ls st : List Value) (G : mc_H), mc_ev X 16 57 ls (.int y :: .int x :: st) G = if x = y then mc_ev X 16 60 ls st G else mc_ev X 16 65 ls st G) ∧
  (∀ (ls st : List Value) (G : mc_H), mc_ev X 16 60 ls st G = mc_ev X 16 62 ls (.int (-9) :: st) G) ∧
  (∀ (ls st : List Value) (G : mc_H), mc_ev X 16 62 ls st G = mc_ev X 16 66 ls st G) ∧
  (∀ (v0 v1 v3 : Value) (x : Int32) (st : List Value) (G : mc_H), mc_ev X 16 65 [v0, v1, .int x, v3] st G = mc_ev X 16 66 [v0, v1, .int x, v3] (.int x :: st) G) ∧
  (∀ (v : Int32) (ls : List Value) (G : mc_H), mc_ev X 16 66 ls [.int v] G = some (some (.int v), G)) := ⟨fun ls st G => ev_ldc rfl rfl,
  fun v0 v1 v2 v3 x st G => ev_istore_n (X := X) (k := 16) (pc := 2) (ls := [v0, v1, v2, v3]) (st := st) (G := G) (j := 2) (x := x) rfl (Nat.le_of_ble_eq_true rfl),
  fun ls st G => ev_iconst rfl rfl,
  fun v0 v1 v2 v3 x st G => ev_istore_n (X := X) (k := 16) (pc := 4) (ls := [v0, v1, v2, v3]) (st := st) (G := G) (j := 3) (x := x) rfl (Nat.le_of_ble_eq_true rfl),
  fun v1 v2 v3 x st G => ev_aload_n rfl rfl,
  fun r ls st G => ev_getfield rfl,
  fun x y ls st G => ev_br rfl rfl,
  fun v1 v2 v3 x st G => ev_aload_n rfl rfl,
  fun r ls st G => ev_getfield rfl,
  fun v0 v1 v2 x st G => ev_iload_n rfl rfl,
  fun i r ls st G => ev_iaload rfl,
  fun v0 v2 v3 x st G => ev_iload_n rfl rfl,
  fun x y ls st G => ev_br rfl rfl,
  fun v1 v2 v3 x st G => ev_aload_n rfl rfl,
  fun r ls st G => ev_getfield rfl,
  fun v0 v1 v2 x st G => ev_iload_n rfl rfl,
  fun i r ls st G => ev_iaload rfl,
  fun v0 v1 v3 x st G => ev_iload_n rfl rfl,
  fun x y ls st G => ev_br rfl rfl,
  fun v1 v2 v3 x st G => ev_aload_n rfl rfl,
  fun v0 v1 v2 x st G => ev_iload_n rfl rfl,
  fun a0 r ls st G hr hG => ev_virt (As := [.int a0]) rfl rfl rfl rfl rfl rfl hr hG,
  fun x ls st G => ev_br rfl rfl,
  fun v1 v2 v3 x st G => ev_aload_n rfl rfl,
  fun r ls st G => ev_getfield rfl,
  fun v0 v1 v2 x st G => ev_iload_n rfl rfl,
  fun i r ls st G => ev_iaload rfl,
  fun v0 v1 v2 v3 x st G => ev_istore_n (X := X) (k := 16) (pc := 47) (ls := [v0, v1, v2, v3]) (st := st) (G := G) (j := 2) (x := x) rfl (Nat.le_of_ble_eq_true rfl),
  fun v0 v1 v2 x st G => ev_iinc (X := X) (k := 16) (pc := 48) (ls := [v0, v1, v2, .int x]) (st := st) (G := G) (j := 3) (n := 1) (x := x) (v := 1) rfl rfl rfl,
  fun ls st G => ev_goto rfl rfl,
  fun v0 v1 v3 x st G => ev_iload_n rfl rfl,
  fun ls st G => ev_ldc rfl rfl,
  fun x y ls st G => ev_br rfl rfl,
  fun ls st G => ev_bipush rfl rfl,
  fun ls st G => ev_goto rfl rfl,
  fun v0 v1 v3 x st G => ev_iload_n rfl rfl,
  fun v ls G => ev_ireturn rfl rfl⟩
theorem h_17_8 {X : mc_X} : ∀ (v0 v1 v2 v3 v4 v6 : Value) (x : Int32) (st : List Value) (G : mc_H), mc_ev X 17 8 [v0, v1, v2, v3, v4, .int x, v6] st G = mc_ev X 17 10 [v0, v1, v2, v3, v4, .int x, v6] (.int x :: st) G := fun v0 v1 v2 v3 v4 v6 x st G => ev_iload rfl rfl
theorem e_17 {X : mc_X} : (∀ (ls st : List Value) (G : mc_H), mc_ev X 17 0 ls st G = mc_ev X 17 1 ls (.int 0 :: st) G) ∧
  (∀ (v0 v1 v2 v3 v4 v5 v6 : Value) (x : Int32) (st : List Value) (G : mc_H), mc_ev X 17 1 [v0, v1, v2, v3, v4, v5, v6] (.int x :: st) G = mc_ev X 17 2 [v0, v1, v2, .int x, v4, v5, v6] st G) ∧
  (∀ (ls st : List Value) (G : mc_H), mc_ev X 17 2 ls st G = mc_ev X 17 3 ls (.int 0 :: st) G) ∧
  (∀ (v0 v1 v2 v3 v4 v5 v6 : Value) (x : Int32) (st : List Value) (G : mc_H), mc_ev X 17 3 [v0, v1, v2, v3, v4, v5, v6] (.int x :: st) G = mc_ev X 17 5 [v0, v1, v2, v3, .int x, v5, v6] st G) ∧
  (∀ (ls st : List Value) (G : mc_H), mc_ev X 17 5 ls st G = mc_ev X 17 6 ls (.int 0 :: st) G) ∧
  (∀ (v0 v1 v2 v3 v4 v5 v6 : Value) (x : Int32) (st : List Value) (G : mc_H), mc_ev X 17 6 [v0, v1, v2, v3, v4, v5, v6] (.int x :: st) G = mc_ev X 17 8 [v0, v1, v2, v3, v4, .int x, v6] st G) ∧
  (∀ (v1 v2 v3 v4 v5 v6 : Value) (x : Nat) (st : List Value) (G : mc_H), mc_ev X 17 10 [.ref x, v1, v2, v3, v4, v5, v6] st G = mc_ev X 17 11 [.ref x, v1, v2, v3, v4, v5, v6] (.ref x :: st) G) ∧
  (∀ (r : Nat) (ls st : List Value) (G : mc_H), mc_ev X 17 11 ls (.ref r :: st) G = (mc_getf G r 2 2).bind (fun v => mc_ev X 17 14 ls (v :: st) G)) ∧
  (∀ (x y : Int32) (ls st : List Value) (G : mc_H), mc_ev X 17 14 ls (.int y :: .int x :: st) G = if x < y then mc_ev X 17 17 ls st G else mc_ev X 17 100 ls st G) ∧
  (∀ (v1 v2 v3 v4 v5 v6 : Value) (x : Nat) (st : List Value) (G : mc_H), mc_ev X 17 17 [.ref x, v1, v2, v3, v4, v5, v6] st G = mc_ev X 17 18 [.ref x, v1, v2, v3, v4, v5, v6] (.ref x :: st) G) ∧
  (∀ (r : Nat) (ls st : List Value) (G : mc_H), mc_ev X 17 18 ls (.ref r :: st) G = (mc_getf G r 2 0).bind (fun v => mc_ev X 17 21 ls (v :: st) G)) ∧
  (∀ (v0 v1 v2 v3 v4 v6 : Value) (x : Int32) (st : List Value) (G : mc_H), mc_ev X 17 21 [v0, v1, v2, v3, v4, .int x, v6] st G = mc_ev X 17 23 [v0, v1, v2, v3, v4, .int x, v6] (.int x :: st) G) ∧
  (∀ (i : Int32) (r : Value) (ls st : List Value) (G : mc_H), mc_ev X 17 23 ls (.int i :: r :: st) G = (mc_getA X G 0 r i).bind (fun x => mc_ev X 17 24 ls (.int x :: st) G)) ∧
  (∀ (v1 v2 v3 v4 v5 v6 : Value) (x : Nat) (st : List Value) (G : mc_H), mc_ev X 17 24 [.ref x, v1, v2, v3, v4, v5, v6] st G = mc_ev X 17 25 [.ref x, v1, v2, v3, v4, v5, v6] (.ref x :: st) G) ∧
  (∀ (r : Nat) (ls st : List Value) (G : mc_H), mc_ev X 17 25 ls (.ref r :: st) G = (mc_getf G r 2 5).bind (fun v => mc_ev X 17 28 ls (v :: st) G)) ∧
  (∀ (x y : Int32) (ls st : List Value) (G : mc_H), mc_ev X 17 28 ls (.int y :: .int x :: st) G = if x = y then mc_ev X 17 31 ls st G else mc_ev X 17 94 ls st G) ∧
  (∀ (v1 v2 v3 v4 v5 v6 : Value) (x : Nat) (st : List Value) (G : mc_H), mc_ev X 17 31 [.ref x, v1, v2, v3, v4, v5, v6] st G = mc_ev X 17 32 [.ref x, v1, v2, v3, v4, v5, v6] (.ref x :: st) G) ∧
  (∀ (v0 v1 v2 v3 v4 v6 : Value) (x : Int32) (st : List Value) (G : mc_H), mc_ev X 17 32 [v0, v1, v2, v3, v4, .int x, v6] st G = mc_ev X 17 34 [v0, v1, v2, v3, v4, .int x, v6] (.int x :: st) G) ∧
  (∀ (a0 : Int32) (r : Nat) (ls st : List Value) (G : mc_H), st.length ≤ 4 → mc_cls G r = some 2 → mc_ev X 17 34 ls (.int a0 :: .ref r :: st) G = (mc_ev X 13 0 [.ref r, .int a0] [] G).bind (fun q => mc_ev X 17 37 ls (q.1.toList ++ st) q.2)) ∧
  (∀ (x : Int32) (ls st : List Value) (G : mc_H), mc_ev X 17 37 ls (.int x :: st) G = if x = 0 then mc_ev X 17 94 ls st G else mc_ev X 17 40 ls st G) ∧
  (∀ (v0 v1 v2 v3 v4 v6 : Value) (x : Int32) (st : List Value) (G : mc_H), mc_ev X 17 40 [v0, v1, v2, v3, v4, .int x, v6] st G = mc_ev X 17 42 [v0, v1, v2, v3, v4, .int x, v6] (.int x :: st) G) ∧
  (∀ (v0 v2 v3 v4 v5 v6 : Value) (x : Int32) (st : List Value) (G : mc_H), mc_ev X 17 42 [v0, .int x, v2, v3, v4, v5, v6] st G = mc_ev X 17 43 [v0, .int x, v2, v3, v4, v5, v6] (.int x :: st) G) ∧
  (∀ (x y : Int32) (ls st : List Value) (G : mc_H), mc_ev X 17 43 ls (.int y :: .int x :: st) G = mc_ev X 17 44 ls (.int (x &&& y) :: st) G) ∧
  (∀ (x : Int32) (ls st : List Value) (G : mc_H), mc_ev X 17 44 ls (.int x :: st) G = if x = 0 then mc_ev X 17 47 ls st G else mc_ev X 17 51 ls st G) ∧
  (∀ (ls st : List Value) (G : mc_H), mc_ev X 17 47 ls st G = mc_ev X 17 48 ls (.int 1 :: st) G) ∧
  (∀ (ls st : List Value) (G : mc_H), mc_ev X 17 48 ls st G = mc_ev X 17 52 ls st G) ∧
  (∀ (ls st : List Value) (G : mc_H), mc_ev X 17 51 ls st G = mc_ev X 17 52 ls (.int 0 :: st) G) ∧
  (∀ (v0 v1 v2 v3 v4 v6 : Value) (x : Int32) (st : List Value) (G : mc_H), mc_ev X 17 52 [v0, v1, v2, v3, v4, .int x, v6] st G = mc_ev X 17 54 [v0, v1, v2, v3, v4, .int x, v6] (.int x :: st) G) ∧
  (∀ (v0 v1 v3 v4 v5 v6 : Value) (x : Int32) (st : List Value) (G : mc_H), mc_ev X 17 54 [v0, v1, .int x, v3, v4, v5, v6] st G = mc_ev X 17 55 [v0, v1, .int x, v3, v4, v5, v6] (.int x :: st) G) ∧
  (∀ (x y : Int32) (ls st : List Value) (G : mc_H), mc_ev X 17 55 ls (.int y :: .int x :: st) G = mc_ev X 17 56 ls (.int (x &&& y) :: st) G) ∧
  (∀ (x : Int32) (ls st : List Value) (G : mc_H), mc_ev X 17 56 ls (.int x :: st) G = if x = 0 then mc_ev X 17 59 ls st G else mc_ev X 17 63 ls st G) ∧
  (∀ (ls st : List Value) (G : mc_H), mc_ev X 17 59 ls st G = mc_ev X 17 60 ls (.int 1 :: st) G) ∧
  (∀ (ls st : List Value) (G : mc_H), mc_ev X 17 60 ls st G = mc_ev X 17 64 ls st G) ∧
  (∀ (ls st : List Value) (G : mc_H), mc_ev X 17 63 ls st G = mc_ev X 17 64 ls (.int 0 :: st) G) ∧
  (∀ (x y : Int32) (ls st : List Value) (G : mc_H), mc_ev X 17 64 ls (.int y :: .int x :: st) G = if x = y then mc_ev X 17 67 ls st G else mc_ev X 17 71 ls st G) ∧
  (∀ (ls st : List Value) (G : mc_H), mc_ev X 17 67 ls st G = mc_ev X 17 68 ls (.int 1 :: st) G) ∧
  (∀ (ls st : List Value) (G : mc_H), mc_ev X 17 68 ls st G = mc_ev X 17 72 ls st G) ∧
  (∀ (ls st : List Value) (G : mc_H), mc_ev X 17 71 ls st G = mc_ev X 17 72 ls (.int 0 :: st) G) ∧
  (∀ (v0 v1 v2 v3 v4 v5 v6 : Value) (x : Int32) (st : List Value) (G : mc_H), mc_ev X 17 72 [v0, v1, v2, v3, v4, v5, v6] (.int x :: st) G = mc_ev X 17 74 [v0, v1, v2, v3, v4, v5, .int x] st G) ∧
  (∀ (v0 v1 v2 v4 v5 v6 : Value) (x : Int32) (st : List Value) (G : mc_H), mc_ev X 17 74 [v0, v1, v2, .int x, v4, v5, v6] st G = mc_ev X 17 75 [v0, v1, v2, .int x, v4, v5, v6] (.int x :: st) G) ∧
  (∀ (v0 v1 v2 v3 v4 v5 : Value) (x : Int32) (st : List Value) (G : mc_H), mc_ev X 17 75 [v0, v1, v2, v3, v4, v5, .int x] st G = mc_ev X 17 77 [v0, v1, v2, v3, v4, v5, .int x] (.int x :: st) G) ∧
  (∀ (x y : Int32) (ls st : List Value) (G : mc_H), mc_ev X 17 77 ls (.int y :: .int x :: st) G = mc_ev X 17 78 ls (.int (x ||| y) :: st) G) ∧
  (∀ (v0 v1 v2 v3 v4 v5 v6 : Value) (x : Int32) (st : List Value) (G : mc_H), mc_ev X 17 78 [v0, v1, v2, v3, v4, v5, v6] (.int x :: st) G = mc_ev X 17 79 [v0, v1, v2, .int x, v4, v5, v6] st G) ∧
  (∀ (v0 v1 v2 v3 v5 v6 : Value) (x : Int32) (st : List Value) (G : mc_H), mc_ev X 17 79 [v0, v1, v2, v3, .int x, v5, v6] st G = mc_ev X 17 81 [v0, v1, v2, v3, .int x, v5, v6] (.int x :: st) G) ∧
  (∀ (v0 v1 v2 v3 v4 v5 : Value) (x : Int32) (st : List Value) (G : mc_H), mc_ev X 17 81 [v0, v1, v2, v3, v4, v5, .int x] st G = mc_ev X 17 83 [v0, v1, v2, v3, v4, v5, .int x] (.int x :: st) G) ∧
  (∀ (x : Int32) (ls st : List Value) (G : mc_H), mc_ev X 17 83 ls (.int x :: st) G = if x = 0 then mc_ev X 17 86 ls st G else mc_ev X 17 90 ls st G) ∧
  (∀ (ls st : List Value) (G : mc_H), mc_ev X 17 86 ls st G = mc_ev X 17 87 ls (.int 1 :: st) G) ∧
  (∀ (ls st : List Value) (G : mc_H), mc_ev X 17 87 ls st G = mc_ev X 17 91 ls st G) ∧
  (∀ (ls st : List Value) (G : mc_H), mc_ev X 17 90 ls st G = mc_ev X 17 91 ls (.int 0 :: st) G) ∧
  (∀ (x y : Int32) (ls st : List Value) (G : mc_H), mc_ev X 17 91 ls (.int y :: .int x :: st) G = mc_ev X 17 92 ls (.int (x ||| y) :: st) G) ∧
  (∀ (v0 v1 v2 v3 v4 v5 v6 : Value) (x : Int32) (st : List Value) (G : mc_H), mc_ev X 17 92 [v0, v1, v2, v3, v4, v5, v6] (.int x :: st) G = mc_ev X 17 94 [v0, v1, v2, v3, .int x, v5, v6] st G) ∧
  (∀ (v0 v1 v2 v3 v4 v6 : Value) (x : Int32) (st : List Value) (G : mc_H), mc_ev X 17 94 [v0, v1, v2, v3, v4, .int x, v6] st G = mc_ev X 17 97 [v0, v1, v2, v3, v4, .int (x + 1), v6] st G) ∧
  (∀ (ls st : List Value) (G : mc_H), mc_ev X 17 97 ls st G = mc_ev X 17 8 ls st G) ∧
  (∀ (v0 v1 v2 v4 v5 v6 : Value) (x : Int32) (st : List Value) (G : mc_H), mc_ev X 17 100 [v0, v1, v2, .int x, v4, v5, v6] st G = mc_ev X 17 101 [v0, v1, v2, .int x, v4, v5, v6] (.int x :: st) G) ∧
  (∀ (v0 v1 v2 v3 v5 v6 : Value) (x : Int32) (st : List Value) (G : mc_H), mc_ev X 17 101 [v0, v1, v2, v3, .int x, v5, v6] st G = mc_ev X 17 103 [v0, v1, v2, v3, .int x, v5, v6] (.int x :: st) G) ∧
  (∀ (x y : Int32) (ls st : List Value) (G : mc_H), mc_ev X 17 103 ls (.int y :: .int x :: st) G = if x = y then mc_ev X 17 106 ls st G else mc_ev X 17 108 ls st G) ∧
  (∀ (ls st : List Value) (G : mc_H), mc_ev X 17 106 ls st G = mc_ev X 17 107 ls (.int 0 :: st) G) ∧
  (∀ (v : Int32) (ls : List Value) (G : mc_H), mc_ev X 17 107 ls [.int v] G = some (some (.int v), G)) ∧
  (∀ (v0 v1 v2 v4 v5 v6 : Value) (x : Int32) (st : List Value) (G : mc_H), mc_ev X 17 108 [v0, v1, v2, .int x, v4, v5, v6] st G = mc_ev X 17 109 [v0, v1, v2, .int x, v4, v5, v6] (.int x :: st) G) ∧
  (∀ (x : Int32) (ls st : List Value) (G : mc_H), mc_ev X 17 109 ls (.int x :: st) G = if x = 0 then mc_ev X 17 116 ls st G else mc_ev X 17 112 ls st G) ∧
  (∀ (ls st : List Value) (G : mc_H), mc_ev X 17 112 ls st G = mc_ev X 17 113 ls (.int 1 :: st) G) ∧
  (∀ (ls st : List Value) (G : mc_H), mc_ev X 17 113 ls st G = mc_ev X 17 117 ls st G) ∧
  (∀ (ls st : List Value) (G : mc_H), mc_ev X 17 116 ls st G = mc_ev X 17 117 ls (.int (-1) :: st) G) ∧
  (∀ (v : Int32) (ls : List Value) (G : mc_H), mc_ev X 17 117 ls [.int v] G = some (some (.int v), G)) := ⟨fun ls st G => ev_iconst rfl rfl,
  fun v0 v1 v2 v3 v4 v5 v6 x st G => ev_istore_n (X := X) (k := 17) (pc := 1) (ls := [v0, v1, v2, v3, v4, v5, v6]) (st := st) (G := G) (j := 3) (x := x) rfl (Nat.le_of_ble_eq_true rfl),
  fun ls st G => ev_iconst rfl rfl,
  fun v0 v1 v2 v3 v4 v5 v6 x st G => ev_istore (X := X) (k := 17) (pc := 3) (ls := [v0, v1, v2, v3, v4, v5, v6]) (st := st) (G := G) (j := 4) (x := x) rfl (Nat.le_of_ble_eq_true rfl),
  fun ls st G => ev_iconst rfl rfl,
  fun v0 v1 v2 v3 v4 v5 v6 x st G => ev_istore (X := X) (k := 17) (pc := 6) (ls := [v0, v1, v2, v3, v4, v5, v6]) (st := st) (G := G) (j := 5) (x := x) rfl (Nat.le_of_ble_eq_true rfl),
  fun v1 v2 v3 v4 v5 v6 x st G => ev_aload_n rfl rfl,
  fun r ls st G => ev_getfield rfl,
  fun x y ls st G => ev_br rfl rfl,
  fun v1 v2 v3 v4 v5 v6 x st G => ev_aload_n rfl rfl,
  fun r ls st G => ev_getfield rfl,
  fun v0 v1 v2 v3 v4 v6 x st G => ev_iload rfl rfl,
  fun i r ls st G => ev_iaload rfl,
  fun v1 v2 v3 v4 v5 v6 x st G => ev_aload_n rfl rfl,
  fun r ls st G => ev_getfield rfl,
  fun x y ls st G => ev_br rfl rfl,
  fun v1 v2 v3 v4 v5 v6 x st G => ev_aload_n rfl rfl,
  fun v0 v1 v2 v3 v4 v6 x st G => ev_iload rfl rfl,
  fun a0 r ls st G hr hG => ev_virt (As := [.int a0]) rfl rfl rfl rfl rfl rfl hr hG,
  fun x ls st G => ev_br rfl rfl,
  fun v0 v1 v2 v3 v4 v6 x st G => ev_iload rfl rfl,
  fun v0 v2 v3 v4 v5 v6 x st G => ev_iload_n rfl rfl,
  fun x y ls st G => ev_iand rfl,
  fun x ls st G => ev_br rfl rfl,
  fun ls st G => ev_iconst rfl rfl,
  fun ls st G => ev_goto rfl rfl,
  fun ls st G => ev_iconst rfl rfl,
  fun v0 v1 v2 v3 v4 v6 x st G => ev_iload rfl rfl,
  fun v0 v1 v3 v4 v5 v6 x st G => ev_iload_n rfl rfl,
  fun x y ls st G => ev_iand rfl,
  fun x ls st G => ev_br rfl rfl,
  fun ls st G => ev_iconst rfl rfl,
  fun ls st G => ev_goto rfl rfl,
  fun ls st G => ev_iconst rfl rfl,
  fun x y ls st G => ev_br rfl rfl,
  fun ls st G => ev_iconst rfl rfl,
  fun ls st G => ev_goto rfl rfl,
  fun ls st G => ev_iconst rfl rfl,
  fun v0 v1 v2 v3 v4 v5 v6 x st G => ev_istore (X := X) (k := 17) (pc := 72) (ls := [v0, v1, v2, v3, v4, v5, v6]) (st := st) (G := G) (j := 6) (x := x) rfl (Nat.le_of_ble_eq_true rfl),
  fun v0 v1 v2 v4 v5 v6 x st G => ev_iload_n rfl rfl,
  fun v0 v1 v2 v3 v4 v5 x st G => ev_iload rfl rfl,
  fun x y ls st G => ev_ior rfl,
  fun v0 v1 v2 v3 v4 v5 v6 x st G => ev_istore_n (X := X) (k := 17) (pc := 78) (ls := [v0, v1, v2, v3, v4, v5, v6]) (st := st) (G := G) (j := 3) (x := x) rfl (Nat.le_of_ble_eq_true rfl),
  fun v0 v1 v2 v3 v5 v6 x st G => ev_iload rfl rfl,
  fun v0 v1 v2 v3 v4 v5 x st G => ev_iload rfl rfl,
  fun x ls st G => ev_br rfl rfl,
  fun ls st G => ev_iconst rfl rfl,
  fun ls st G => ev_goto rfl rfl,
  fun ls st G => ev_iconst rfl rfl,
  fun x y ls st G => ev_ior rfl,
  fun v0 v1 v2 v3 v4 v5 v6 x st G => ev_istore (X := X) (k := 17) (pc := 92) (ls := [v0, v1, v2, v3, v4, v5, v6]) (st := st) (G := G) (j := 4) (x := x) rfl (Nat.le_of_ble_eq_true rfl),
  fun v0 v1 v2 v3 v4 v6 x st G => ev_iinc (X := X) (k := 17) (pc := 94) (ls := [v0, v1, v2, v3, v4, .int x, v6]) (st := st) (G := G) (j := 5) (n := 1) (x := x) (v := 1) rfl rfl rfl,
  fun ls st G => ev_goto rfl rfl,
  fun v0 v1 v2 v4 v5 v6 x st G => ev_iload_n rfl rfl,
  fun v0 v1 v2 v3 v5 v6 x st G => ev_iload rfl rfl,
  fun x y ls st G => ev_br rfl rfl,
  fun ls st G => ev_iconst rfl rfl,
  fun v ls G => ev_ireturn rfl rfl,
  fun v0 v1 v2 v4 v5 v6 x st G => ev_iload_n rfl rfl,
  fun x ls st G => ev_br rfl rfl,
  fun ls st G => ev_iconst rfl rfl,
  fun ls st G => ev_goto rfl rfl,
  fun ls st G => ev_iconst rfl rfl,
  fun v ls G => ev_ireturn rfl rfl⟩
theorem e_19 {X : mc_X} : (∀ (v1 v2 : Value) (x : Nat) (st : List Value) (G : mc_H), mc_ev X 19 0 [.ref x, v1, v2] st G = mc_ev X 19 1 [.ref x, v1, v2] (.ref x :: st) G) ∧
  (∀ (r : Nat) (ls st : List Value) (G : mc_H), mc_ev X 19 1 ls (.ref r :: st) G = (mc_getf G r 3 0).bind (fun v => mc_ev X 19 4 ls (v :: st) G)) ∧
  (∀ (v0 v2 : Value) (x : Int32) (st : List Value) (G : mc_H), mc_ev X 19 4 [v0, .int x, v2] st G = mc_ev X 19 5 [v0, .int x, v2] (.int x :: st) G) ∧
  (∀ (ls st : List Value) (G : mc_H), mc_ev X 19 5 ls st G = mc_ev X 19 7 ls (.int 7 :: st) G) ∧
  (∀ (x y : Int32) (ls st : List Value) (G : mc_H), mc_ev X 19 7 ls (.int y :: .int x :: st) G = mc_ev X 19 8 ls (.int (x * y) :: st) G) ∧
  (∀ (v0 v1 : Value) (x : Int32) (st : List Value) (G : mc_H), mc_ev X 19 8 [v0, v1, .int x] st G = mc_ev X 19 9 [v0, v1, .int x] (.int x :: st) G) ∧
  (∀ (x y : Int32) (ls st : List Value) (G : mc_H), mc_ev X 19 9 ls (.int y :: .int x :: st) G = mc_ev X 19 10 ls (.int (x + y) :: st) G) ∧
  (∀ (i : Int32) (r : Value) (ls st : List Value) (G : mc_H), mc_ev X 19 10 ls (.int i :: r :: st) G = (mc_getA X G 0 r i).bind (fun x => mc_ev X 19 11 ls (.int x :: st) G)) ∧
  (∀ (v : Int32) (ls : List Value) (G : mc_H), mc_ev X 19 11 ls [.int v] G = some (some (.int v), G)) := ⟨fun v1 v2 x st G => ev_aload_n rfl rfl,
  fun r ls st G => ev_getfield rfl,
  fun v0 v2 x st G => ev_iload_n rfl rfl,
  fun ls st G => ev_bipush rfl rfl,
  fun x y ls st G => ev_imul rfl,
  fun v0 v1 x st G => ev_iload_n rfl rfl,
  fun x y ls st G => ev_iadd rfl,
  fun i r ls st G => ev_iaload rfl,
  fun v ls G => ev_ireturn rfl rfl⟩
theorem h_20_11 {X : mc_X} : ∀ (v0 v1 : Value) (x : Int32) (st : List Value) (G : mc_H), mc_ev X 20 11 [v0, v1, .int x] st G = mc_ev X 20 12 [v0, v1, .int x] (.int x :: st) G := fun v0 v1 x st G => ev_iload_n rfl rfl
theorem h_20_37 {X : mc_X} : ∀ (v0 v1 : Value) (x : Int32) (st : List Value) (G : mc_H), mc_ev X 20 37 [v0, v1, .int x] st G = mc_ev X 20 38 [v0, v1, .int x] (.int x :: st) G := fun v0 v1 x st G => ev_iload_n rfl rfl
theorem h_20_83 {X : mc_X} : ∀ (v0 v1 : Value) (x : Int32) (st : List Value) (G : mc_H), mc_ev X 20 83 [v0, v1, .int x] st G = mc_ev X 20 84 [v0, v1, .int x] (.int x :: st) G := fun v0 v1 x st G => ev_iload_n rfl rfl
theorem e_20 {X : mc_X} : (∀ (v1 v2 : Value) (x : Nat) (st : List Value) (G : mc_H), mc_ev X 20 0 [.ref x, v1, v2] st G = mc_ev X 20 1 [.ref x, v1, v2] (.ref x :: st) G) ∧
  (∀ (r : Nat) (ls st : List Value) (G : mc_H), mc_ev X 20 1 ls (.ref r :: st) G = (mc_getf G r 3 0).bind (fun v => mc_ev X 20 4 ls (v :: st) G)) ∧
  (∀ (ls st : List Value) (G : mc_H), mc_ev X 20 4 ls st G = mc_ev X 20 6 ls (.int 10000000 :: st) G) ∧
  (∀ (a0 : Nat) (a1 : Int32) (ls st : List Value) (G : mc_H), st.length ≤ 4 → mc_ev X 20 6 ls (.int a1 :: .ref a0 :: st) G = (mc_ev X 179 0 [.ref a0, .int a1, .null, .null] [] G).bind (fun q => mc_ev X 20 9 ls (q.1.toList ++ st) q.2)) ∧
  (∀ (ls st : List Value) (G : mc_H), mc_ev X 20 9 ls st G = mc_ev X 20 10 ls (.int 0 :: st) G) ∧
  (∀ (v0 v1 v2 : Value) (x : Int32) (st : List Value) (G : mc_H), mc_ev X 20 10 [v0, v1, v2] (.int x :: st) G = mc_ev X 20 11 [v0, v1, .int x] st G) ∧
  (∀ (v0 v2 : Value) (x : Nat) (st : List Value) (G : mc_H), mc_ev X 20 12 [v0, .ref x, v2] st G = mc_ev X 20 13 [v0, .ref x, v2] (.ref x :: st) G) ∧
  (∀ (r : Nat) (ls st : List Value) (G : mc_H), mc_ev X 20 13 ls (.ref r :: st) G = (mc_getf G r 4 0).bind (fun v => mc_ev X 20 16 ls (v :: st) G)) ∧
  (∀ (r : Nat) (ls st : List Value) (G : mc_H), mc_ev X 20 16 ls (.ref r :: st) G = (mc_getf G r 0 4).bind (fun v => mc_ev X 20 19 ls (v :: st) G)) ∧
  (∀ (x y : Int32) (ls st : List Value) (G : mc_H), mc_ev X 20 19 ls (.int y :: .int x :: st) G = if x < y then mc_ev X 20 22 ls st G else mc_ev X 20 35 ls st G) ∧
  (∀ (v1 v2 : Value) (x : Nat) (st : List Value) (G : mc_H), mc_ev X 20 22 [.ref x, v1, v2] st G = mc_ev X 20 23 [.ref x, v1, v2] (.ref x :: st) G) ∧
  (∀ (v0 v1 : Value) (x : Int32) (st : List Value) (G : mc_H), mc_ev X 20 23 [v0, v1, .int x] st G = mc_ev X 20 24 [v0, v1, .int x] (.int x :: st) G) ∧
  (∀ (v0 v1 : Value) (x : Int32) (st : List Value) (G : mc_H), mc_ev X 20 24 [v0, v1, .int x] st G = mc_ev X 20 25 [v0, v1, .int x] (.int x :: st) G) ∧
  (∀ (ls st : List Value) (G : mc_H), mc_ev X 20 25 ls st G = mc_ev X 20 26 ls (.int 0 :: st) G) ∧
  (∀ (a0 : Int32) (a1 : Int32) (a2 : Int32) (r : Nat) (ls st : List Value) (G : mc_H), st.length ≤ 4 → mc_cls G r = some 3 → mc_ev X 20 26 ls (.int a2 :: .int a1 :: .int a0 :: .ref r :: st) G = (mc_ev X 22 0 [.ref r, .int a0, .int a1, .int a2, .null] [] G).bind (fun q => mc_ev X 20 29 ls (q.1.toList ++ st) q.2)) ∧
  (∀ (v0 v1 : Value) (x : Int32) (st : List Value) (G : mc_H), mc_ev X 20 29 [v0, v1, .int x] st G = mc_ev X 20 32 [v0, v1, .int (x + 1)] st G) ∧
  (∀ (ls st : List Value) (G : mc_H), mc_ev X 20 32 ls st G = mc_ev X 20 11 ls st G) ∧
  (∀ (ls st : List Value) (G : mc_H), mc_ev X 20 35 ls st G = mc_ev X 20 36 ls (.int 0 :: st) G) ∧
  (∀ (v0 v1 v2 : Value) (x : Int32) (st : List Value) (G : mc_H), mc_ev X 20 36 [v0, v1, v2] (.int x :: st) G = mc_ev X 20 37 [v0, v1, .int x] st G) ∧
  (∀ (v0 v2 : Value) (x : Nat) (st : List Value) (G : mc_H), mc_ev X 20 38 [v0, .ref x, v2] st G = mc_ev X 20 39 [v0, .ref x, v2] (.ref x :: st) G) ∧
  (∀ (r : Nat) (ls st : List Value) (G : mc_H), mc_ev X 20 39 ls (.ref r :: st) G = (mc_getf G r 4 0).bind (fun v => mc_ev X 20 42 ls (v :: st) G)) ∧
  (∀ (r : Nat) (ls st : List Value) (G : mc_H), mc_ev X 20 42 ls (.ref r :: st) G = (mc_getf G r 0 3).bind (fun v => mc_ev X 20 45 ls (v :: st) G)) ∧
  (∀ (x y : Int32) (ls st : List Value) (G : mc_H), mc_ev X 20 45 ls (.int y :: .int x :: st) G = if x < y then mc_ev X 20 48 ls st G else mc_ev X 20 81 ls st G) ∧
  (∀ (v1 v2 : Value) (x : Nat) (st : List Value) (G : mc_H), mc_ev X 20 48 [.ref x, v1, v2] st G = mc_ev X 20 49 [.ref x, v1, v2] (.ref x :: st) G) ∧
  (∀ (v0 v2 : Value) (x : Nat) (st : List Value) (G : mc_H), mc_ev X 20 49 [v0, .ref x, v2] st G = mc_ev X 20 50 [v0, .ref x, v2] (.ref x :: st) G) ∧
  (∀ (r : Nat) (ls st : List Value) (G : mc_H), mc_ev X 20 50 ls (.ref r :: st) G = (mc_getf G r 4 0).bind (fun v => mc_ev X 20 53 ls (v :: st) G)) ∧
  (∀ (r : Nat) (ls st : List Value) (G : mc_H), mc_ev X 20 53 ls (.ref r :: st) G = (mc_getf G r 0 8).bind (fun v => mc_ev X 20 56 ls (v :: st) G)) ∧
  (∀ (v0 v1 : Value) (x : Int32) (st : List Value) (G : mc_H), mc_ev X 20 56 [v0, v1, .int x] st G = mc_ev X 20 57 [v0, v1, .int x] (.int x :: st) G) ∧
  (∀ (i : Int32) (r : Value) (ls st : List Value) (G : mc_H), mc_ev X 20 57 ls (.int i :: r :: st) G = (mc_getA X G 0 r i).bind (fun x => mc_ev X 20 58 ls (.int x :: st) G)) ∧
  (∀ (v0 v2 : Value) (x : Nat) (st : List Value) (G : mc_H), mc_ev X 20 58 [v0, .ref x, v2] st G = mc_ev X 20 59 [v0, .ref x, v2] (.ref x :: st) G) ∧
  (∀ (r : Nat) (ls st : List Value) (G : mc_H), mc_ev X 20 59 ls (.ref r :: st) G = (mc_getf G r 4 0).bind (fun v => mc_ev X 20 62 ls (v :: st) G)) ∧
  (∀ (r : Nat) (ls st : List Value) (G : mc_H), mc_ev X 20 62 ls (.ref r :: st) G = (mc_getf G r 0 9).bind (fun v => mc_ev X 20 65 ls (v :: st) G)) ∧
  (∀ (v0 v1 : Value) (x : Int32) (st : List Value) (G : mc_H), mc_ev X 20 65 [v0, v1, .int x] st G = mc_ev X 20 66 [v0, v1, .int x] (.int x :: st) G) ∧
  (∀ (i : Int32) (r : Value) (ls st : List Value) (G : mc_H), mc_ev X 20 66 ls (.int i :: r :: st) G = (mc_getA X G 0 r i).bind (fun x => mc_ev X 20 67 ls (.int x :: st) G)) ∧
  (∀ (v0 v2 : Value) (x : Nat) (st : List Value) (G : mc_H), mc_ev X 20 67 [v0, .ref x, v2] st G = mc_ev X 20 68 [v0, .ref x, v2] (.ref x :: st) G) ∧
  (∀ (v0 v1 : Value) (x : Int32) (st : List Value) (G : mc_H), mc_ev X 20 68 [v0, v1, .int x] st G = mc_ev X 20 69 [v0, v1, .int x] (.int x :: st) G) ∧
  (∀ (a0 : Int32) (r : Nat) (ls st : List Value) (G : mc_H), st.length ≤ 4 → mc_cls G r = some 4 → mc_ev X 20 69 ls (.int a0 :: .ref r :: st) G = (mc_ev X 35 0 [.ref r, .int a0] [] G).bind (fun q => mc_ev X 20 72 ls (q.1.toList ++ st) q.2)) ∧
  (∀ (a0 : Int32) (a1 : Int32) (a2 : Int32) (r : Nat) (ls st : List Value) (G : mc_H), st.length ≤ 4 → mc_cls G r = some 3 → mc_ev X 20 72 ls (.int a2 :: .int a1 :: .int a0 :: .ref r :: st) G = (mc_ev X 22 0 [.ref r, .int a0, .int a1, .int a2, .null] [] G).bind (fun q => mc_ev X 20 75 ls (q.1.toList ++ st) q.2)) ∧
  (∀ (v0 v1 : Value) (x : Int32) (st : List Value) (G : mc_H), mc_ev X 20 75 [v0, v1, .int x] st G = mc_ev X 20 78 [v0, v1, .int (x + 1)] st G) ∧
  (∀ (ls st : List Value) (G : mc_H), mc_ev X 20 78 ls st G = mc_ev X 20 37 ls st G) ∧
  (∀ (ls st : List Value) (G : mc_H), mc_ev X 20 81 ls st G = mc_ev X 20 82 ls (.int 0 :: st) G) ∧
  (∀ (v0 v1 v2 : Value) (x : Int32) (st : List Value) (G : mc_H), mc_ev X 20 82 [v0, v1, v2] (.int x :: st) G = mc_ev X 20 83 [v0, v1, .int x] st G) ∧
  (∀ (v0 v2 : Value) (x : Nat) (st : List Value) (G : mc_H), mc_ev X 20 84 [v0, .ref x, v2] st G = mc_ev X 20 85 [v0, .ref x, v2] (.ref x :: st) G) ∧
  (∀ (r : Nat) (ls st : List Value) (G : mc_H), mc_ev X 20 85 ls (.ref r :: st) G = (mc_getf G r 4 0).bind (fun v => mc_ev X 20 88 ls (v :: st) G)) ∧
  (∀ (r : Nat) (ls st : List Value) (G : mc_H), mc_ev X 20 88 ls (.ref r :: st) G = (mc_getf G r 0 4).bind (fun v => mc_ev X 20 91 ls (v :: st) G)) ∧
  (∀ (x y : Int32) (ls st : List Value) (G : mc_H), mc_ev X 20 91 ls (.int y :: .int x :: st) G = if x < y then mc_ev X 20 94 ls st G else mc_ev X 20 112 ls st G) ∧
  (∀ (v1 v2 : Value) (x : Nat) (st : List Value) (G : mc_H), mc_ev X 20 94 [.ref x, v1, v2] st G = mc_ev X 20 95 [.ref x, v1, v2] (.ref x :: st) G) ∧
  (∀ (v0 v1 : Value) (x : Int32) (st : List Value) (G : mc_H), mc_ev X 20 95 [v0, v1, .int x] st G = mc_ev X 20 96 [v0, v1, .int x] (.int x :: st) G) ∧
  (∀ (v0 v2 : Value) (x : Nat) (st : List Value) (G : mc_H), mc_ev X 20 96 [v0, .ref x, v2] st G = mc_ev X 20 97 [v0, .ref x, v2] (.ref x :: st) G) ∧
  (∀ (r : Nat) (ls st : List Value) (G : mc_H), mc_ev X 20 97 ls (.ref r :: st) G = (mc_getf G r 4 0).bind (fun v => mc_ev X 20 100 ls (v :: st) G)) ∧
  (∀ (r : Nat) (ls st : List Value) (G : mc_H), mc_ev X 20 100 ls (.ref r :: st) G = (mc_getf G r 0 4).bind (fun v => mc_ev X 20 103 ls (v :: st) G)) ∧
  (∀ (a0 : Int32) (a1 : Int32) (r : Nat) (ls st : List Value) (G : mc_H), st.length ≤ 4 → mc_cls G r = some 3 → mc_ev X 20 103 ls (.int a1 :: .int a0 :: .ref r :: st) G = (mc_ev X 21 0 [.ref r, .int a0, .int a1, .null, .null] [] G).bind (fun q => mc_ev X 20 106 ls (q.1.toList ++ st) q.2)) ∧
  (∀ (v0 v1 : Value) (x : Int32) (st : List Value) (G : mc_H), mc_ev X 20 106 [v0, v1, .int x] st G = mc_ev X 20 109 [v0, v1, .int (x + 1)] st G) ∧
  (∀ (ls st : List Value) (G : mc_H), mc_ev X 20 109 ls st G = mc_ev X 20 83 ls st G) ∧
  (∀ (ls : List Value) (G : mc_H), mc_ev X 20 112 ls [] G = some (none, G)) := ⟨fun v1 v2 x st G => ev_aload_n rfl rfl,
  fun r ls st G => ev_getfield rfl,
  fun ls st G => ev_ldc rfl rfl,
  fun a0 a1 ls st G hr => ev_stat (As := [.ref a0, .int a1]) rfl (by decide) rfl rfl rfl rfl hr,
  fun ls st G => ev_iconst rfl rfl,
  fun v0 v1 v2 x st G => ev_istore_n (X := X) (k := 20) (pc := 10) (ls := [v0, v1, v2]) (st := st) (G := G) (j := 2) (x := x) rfl (Nat.le_of_ble_eq_true rfl),
  fun v0 v2 x st G => ev_aload_n rfl rfl,
  fun r ls st G => ev_getfield rfl,
  fun r ls st G => ev_getfield rfl,
  fun x y ls st G => ev_br rfl rfl,
  fun v1 v2 x st G => ev_aload_n rfl rfl,
  fun v0 v1 x st G => ev_iload_n rfl rfl,
  fun v0 v1 x st G => ev_iload_n rfl rfl,
  fun ls st G => ev_iconst rfl rfl,
  fun a0 a1 a2 r ls st G hr hG => ev_virt (As := [.int a0, .int a1, .int a2]) rfl rfl rfl rfl rfl rfl hr hG,
  fun v0 v1 x st G => ev_iinc (X := X) (k := 20) (pc := 29) (ls := [v0, v1, .int x]) (st := st) (G := G) (j := 2) (n := 1) (x := x) (v := 1) rfl rfl rfl,
  fun ls st G => ev_goto rfl rfl,
  fun ls st G => ev_iconst rfl rfl,
  fun v0 v1 v2 x st G => ev_istore_n (X := X) (k := 20) (pc := 36) (ls := [v0, v1, v2]) (st := st) (G := G) (j := 2) (x := x) rfl (Nat.le_of_ble_eq_true rfl),
  fun v0 v2 x st G => ev_aload_n rfl rfl,
  fun r ls st G => ev_getfield rfl,
  fun r ls st G => ev_getfield rfl,
  fun x y ls st G => ev_br rfl rfl,
  fun v1 v2 x st G => ev_aload_n rfl rfl,
  fun v0 v2 x st G => ev_aload_n rfl rfl,
  fun r ls st G => ev_getfield rfl,
  fun r ls st G => ev_getfield rfl,
  fun v0 v1 x st G => ev_iload_n rfl rfl,
  fun i r ls st G => ev_iaload rfl,
  fun v0 v2 x st G => ev_aload_n rfl rfl,
  fun r ls st G => ev_getfield rfl,
  fun r ls st G => ev_getfield rfl,
  fun v0 v1 x st G => ev_iload_n rfl rfl,
  fun i r ls st G => ev_iaload rfl,
  fun v0 v2 x st G => ev_aload_n rfl rfl,
  fun v0 v1 x st G => ev_iload_n rfl rfl,
  fun a0 r ls st G hr hG => ev_virt (As := [.int a0]) rfl rfl rfl rfl rfl rfl hr hG,
  fun a0 a1 a2 r ls st G hr hG => ev_virt (As := [.int a0, .int a1, .int a2]) rfl rfl rfl rfl rfl rfl hr hG,
  fun v0 v1 x st G => ev_iinc (X := X) (k := 20) (pc := 75) (ls := [v0, v1, .int x]) (st := st) (G := G) (j := 2) (n := 1) (x := x) (v := 1) rfl rfl rfl,
  fun ls st G => ev_goto rfl rfl,
  fun ls st G => ev_iconst rfl rfl,
  fun v0 v1 v2 x st G => ev_istore_n (X := X) (k := 20) (pc := 82) (ls := [v0, v1, v2]) (st := st) (G := G) (j := 2) (x := x) rfl (Nat.le_of_ble_eq_true rfl),
  fun v0 v2 x st G => ev_aload_n rfl rfl,
  fun r ls st G => ev_getfield rfl,
  fun r ls st G => ev_getfield rfl,
  fun x y ls st G => ev_br rfl rfl,
  fun v1 v2 x st G => ev_aload_n rfl rfl,
  fun v0 v1 x st G => ev_iload_n rfl rfl,
  fun v0 v2 x st G => ev_aload_n rfl rfl,
  fun r ls st G => ev_getfield rfl,
  fun r ls st G => ev_getfield rfl,
  fun a0 a1 r ls st G hr hG => ev_virt (As := [.int a0, .int a1]) rfl rfl rfl rfl rfl rfl hr hG,
  fun v0 v1 x st G => ev_iinc (X := X) (k := 20) (pc := 106) (ls := [v0, v1, .int x]) (st := st) (G := G) (j := 2) (n := 1) (x := x) (v := 1) rfl rfl rfl,
  fun ls st G => ev_goto rfl rfl,
  fun ls G => ev_return rfl rfl⟩
theorem h_21_2 {X : mc_X} : ∀ (v0 v1 v2 v4 : Value) (x : Int32) (st : List Value) (G : mc_H), mc_ev X 21 2 [v0, v1, v2, .int x, v4] st G = mc_ev X 21 3 [v0, v1, v2, .int x, v4] (.int x :: st) G := fun v0 v1 v2 v4 x st G => ev_iload_n rfl rfl
theorem h_21_10 {X : mc_X} : ∀ (v0 v1 v2 v3 : Value) (x : Int32) (st : List Value) (G : mc_H), mc_ev X 21 10 [v0, v1, v2, v3, .int x] st G = mc_ev X 21 12 [v0, v1, v2, v3, .int x] (.int x :: st) G := fun v0 v1 v2 v3 x st G => ev_iload rfl rfl
theorem e_21 {X : mc_X} : (∀ (ls st : List Value) (G : mc_H), mc_ev X 21 0 ls st G = mc_ev X 21 1 ls (.int 0 :: st) G) ∧
  (∀ (v0 v1 v2 v3 v4 : Value) (x : Int32) (st : List Value) (G : mc_H), mc_ev X 21 1 [v0, v1, v2, v3, v4] (.int x :: st) G = mc_ev X 21 2 [v0, v1, v2, .int x, v4] st G) ∧
  (∀ (v0 v1 v3 v4 : Value) (x : Int32) (st : List Value) (G : mc_H), mc_ev X 21 3 [v0, v1, .int x, v3, v4] st G = mc_ev X 21 4 [v0, v1, .int x, v3, v4] (.int x :: st) G) ∧
  (∀ (x y : Int32) (ls st : List Value) (G : mc_H), mc_ev X 21 4 ls (.int y :: .int x :: st) G = if x < y then mc_ev X 21 7 ls st G else mc_ev X 21 49 ls st G) ∧
  (∀ (ls st : List Value) (G : mc_H), mc_ev X 21 7 ls st G = mc_ev X 21 8 ls (.int 0 :: st) G) ∧
  (∀ (v0 v1 v2 v3 v4 : Value) (x : Int32) (st : List Value) (G : mc_H), mc_ev X 21 8 [v0, v1, v2, v3, v4] (.int x :: st) G = mc_ev X 21 10 [v0, v1, v2, v3, .int x] st G) ∧
  (∀ (v0 v1 v2 v4 : Value) (x : Int32) (st : List Value) (G : mc_H), mc_ev X 21 12 [v0, v1, v2, .int x, v4] st G = mc_ev X 21 13 [v0, v1, v2, .int x, v4] (.int x :: st) G) ∧
  (∀ (x y : Int32) (ls st : List Value) (G : mc_H), mc_ev X 21 13 ls (.int y :: .int x :: st) G = if x < y then mc_ev X 21 16 ls st G else mc_ev X 21 43 ls st G) ∧
  (∀ (v1 v2 v3 v4 : Value) (x : Nat) (st : List Value) (G : mc_H), mc_ev X 21 16 [.ref x, v1, v2, v3, v4] st G = mc_ev X 21 17 [.ref x, v1, v2, v3, v4] (.ref x :: st) G) ∧
  (∀ (v0 v1 v2 v4 : Value) (x : Int32) (st : List Value) (G : mc_H), mc_ev X 21 17 [v0, v1, v2, .int x, v4] st G = mc_ev X 21 18 [v0, v1, v2, .int x, v4] (.int x :: st) G) ∧
  (∀ (v0 v1 v2 v3 : Value) (x : Int32) (st : List Value) (G : mc_H), mc_ev X 21 18 [v0, v1, v2, v3, .int x] st G = mc_ev X 21 20 [v0, v1, v2, v3, .int x] (.int x :: st) G) ∧
  (∀ (v1 v2 v3 v4 : Value) (x : Nat) (st : List Value) (G : mc_H), mc_ev X 21 20 [.ref x, v1, v2, v3, v4] st G = mc_ev X 21 21 [.ref x, v1, v2, v3, v4] (.ref x :: st) G) ∧
  (∀ (v0 v1 v2 v4 : Value) (x : Int32) (st : List Value) (G : mc_H), mc_ev X 21 21 [v0, v1, v2, .int x, v4] st G = mc_ev X 21 22 [v0, v1, v2, .int x, v4] (.int x :: st) G) ∧
  (∀ (v0 v2 v3 v4 : Value) (x : Int32) (st : List Value) (G : mc_H), mc_ev X 21 22 [v0, .int x, v2, v3, v4] st G = mc_ev X 21 23 [v0, .int x, v2, v3, v4] (.int x :: st) G) ∧
  (∀ (a0 : Int32) (a1 : Int32) (r : Nat) (ls st : List Value) (G : mc_H), st.length ≤ 4 → mc_cls G r = some 3 → mc_ev X 21 23 ls (.int a1 :: .int a0 :: .ref r :: st) G = (mc_ev X 19 0 [.ref r, .int a0, .int a1] [] G).bind (fun q => mc_ev X 21 26 ls (q.1.toList ++ st) q.2)) ∧
  (∀ (v1 v2 v3 v4 : Value) (x : Nat) (st : List Value) (G : mc_H), mc_ev X 21 26 [.ref x, v1, v2, v3, v4] st G = mc_ev X 21 27 [.ref x, v1, v2, v3, v4] (.ref x :: st) G) ∧
  (∀ (v0 v2 v3 v4 : Value) (x : Int32) (st : List Value) (G : mc_H), mc_ev X 21 27 [v0, .int x, v2, v3, v4] st G = mc_ev X 21 28 [v0, .int x, v2, v3, v4] (.int x :: st) G) ∧
  (∀ (v0 v1 v2 v3 : Value) (x : Int32) (st : List Value) (G : mc_H), mc_ev X 21 28 [v0, v1, v2, v3, .int x] st G = mc_ev X 21 30 [v0, v1, v2, v3, .int x] (.int x :: st) G) ∧
  (∀ (a0 : Int32) (a1 : Int32) (r : Nat) (ls st : List Value) (G : mc_H), st.length ≤ 4 → mc_cls G r = some 3 → mc_ev X 21 30 ls (.int a1 :: .int a0 :: .ref r :: st) G = (mc_ev X 19 0 [.ref r, .int a0, .int a1] [] G).bind (fun q => mc_ev X 21 33 ls (q.1.toList ++ st) q.2)) ∧
  (∀ (x y : Int32) (ls st : List Value) (G : mc_H), mc_ev X 21 33 ls (.int y :: .int x :: st) G = mc_ev X 21 34 ls (.int (x + y) :: st) G) ∧
  (∀ (a0 : Int32) (a1 : Int32) (a2 : Int32) (r : Nat) (ls st : List Value) (G : mc_H), st.length ≤ 4 → mc_cls G r = some 3 → mc_ev X 21 34 ls (.int a2 :: .int a1 :: .int a0 :: .ref r :: st) G = (mc_ev X 22 0 [.ref r, .int a0, .int a1, .int a2, .null] [] G).bind (fun q => mc_ev X 21 37 ls (q.1.toList ++ st) q.2)) ∧
  (∀ (v0 v1 v2 v3 : Value) (x : Int32) (st : List Value) (G : mc_H), mc_ev X 21 37 [v0, v1, v2, v3, .int x] st G = mc_ev X 21 40 [v0, v1, v2, v3, .int (x + 1)] st G) ∧
  (∀ (ls st : List Value) (G : mc_H), mc_ev X 21 40 ls st G = mc_ev X 21 10 ls st G) ∧
  (∀ (v0 v1 v2 v4 : Value) (x : Int32) (st : List Value) (G : mc_H), mc_ev X 21 43 [v0, v1, v2, .int x, v4] st G = mc_ev X 21 46 [v0, v1, v2, .int (x + 1), v4] st G) ∧
  (∀ (ls st : List Value) (G : mc_H), mc_ev X 21 46 ls st G = mc_ev X 21 2 ls st G) ∧
  (∀ (ls : List Value) (G : mc_H), mc_ev X 21 49 ls [] G = some (none, G)) := ⟨fun ls st G => ev_iconst rfl rfl,
  fun v0 v1 v2 v3 v4 x st G => ev_istore_n (X := X) (k := 21) (pc := 1) (ls := [v0, v1, v2, v3, v4]) (st := st) (G := G) (j := 3) (x := x) rfl (Nat.le_of_ble_eq_true rfl),
  fun v0 v1 v3 v4 x st G => ev_iload_n rfl rfl,
  fun x y ls st G => ev_br rfl rfl,
  fun ls st G => ev_iconst rfl rfl,
  fun v0 v1 v2 v3 v4 x st G => ev_istore (X := X) (k := 21) (pc := 8) (ls := [v0, v1, v2, v3, v4]) (st := st) (G := G) (j := 4) (x := x) rfl (Nat.le_of_ble_eq_true rfl),
  fun v0 v1 v2 v4 x st G => ev_iload_n rfl rfl,
  fun x y ls st G => ev_br rfl rfl,
  fun v1 v2 v3 v4 x st G => ev_aload_n rfl rfl,
  fun v0 v1 v2 v4 x st G => ev_iload_n rfl rfl,
  fun v0 v1 v2 v3 x st G => ev_iload rfl rfl,
  fun v1 v2 v3 v4 x st G => ev_aload_n rfl rfl,
  fun v0 v1 v2 v4 x st G => ev_iload_n rfl rfl,
  fun v0 v2 v3 v4 x st G => ev_iload_n rfl rfl,
  fun a0 a1 r ls st G hr hG => ev_virt (As := [.int a0, .int a1]) rfl rfl rfl rfl rfl rfl hr hG,
  fun v1 v2 v3 v4 x st G => ev_aload_n rfl rfl,
  fun v0 v2 v3 v4 x st G => ev_iload_n rfl rfl,
  fun v0 v1 v2 v3 x st G => ev_iload rfl rfl,
  fun a0 a1 r ls st G hr hG => ev_virt (As := [.int a0, .int a1]) rfl rfl rfl rfl rfl rfl hr hG,
  fun x y ls st G => ev_iadd rfl,
  fun a0 a1 a2 r ls st G hr hG => ev_virt (As := [.int a0, .int a1, .int a2]) rfl rfl rfl rfl rfl rfl hr hG,
  fun v0 v1 v2 v3 x st G => ev_iinc (X := X) (k := 21) (pc := 37) (ls := [v0, v1, v2, v3, .int x]) (st := st) (G := G) (j := 4) (n := 1) (x := x) (v := 1) rfl rfl rfl,
  fun ls st G => ev_goto rfl rfl,
  fun v0 v1 v2 v4 x st G => ev_iinc (X := X) (k := 21) (pc := 43) (ls := [v0, v1, v2, .int x, v4]) (st := st) (G := G) (j := 3) (n := 1) (x := x) (v := 1) rfl rfl rfl,
  fun ls st G => ev_goto rfl rfl,
  fun ls G => ev_return rfl rfl⟩
theorem e_22 {X : mc_X} : (∀ (v1 v2 v3 v4 : Value) (x : Nat) (st : List Value) (G : mc_H), mc_ev X 22 0 [.ref x, v1, v2, v3, v4] st G = mc_ev X 22 1 [.ref x, v1, v2, v3, v4] (.ref x :: st) G) ∧
  (∀ (v0 v2 v3 v4 : Value) (x : Int32) (st : List Value) (G : mc_H), mc_ev X 22 1 [v0, .int x, v2, v3, v4] st G = mc_ev X 22 2 [v0, .int x, v2, v3, v4] (.int x :: st) G) ∧
  (∀ (v0 v1 v3 v4 : Value) (x : Int32) (st : List Value) (G : mc_H), mc_ev X 22 2 [v0, v1, .int x, v3, v4] st G = mc_ev X 22 3 [v0, v1, .int x, v3, v4] (.int x :: st) G) ∧
  (∀ (a0 : Int32) (a1 : Int32) (r : Nat) (ls st : List Value) (G : mc_H), st.length ≤ 4 → mc_cls G r = some 3 → mc_ev X 22 3 ls (.int a1 :: .int a0 :: .ref r :: st) G = (mc_ev X 19 0 [.ref r, .int a0, .int a1] [] G).bind (fun q => mc_ev X 22 6 ls (q.1.toList ++ st) q.2)) ∧
  (∀ (v0 v1 v2 v4 : Value) (x : Int32) (st : List Value) (G : mc_H), mc_ev X 22 6 [v0, v1, v2, .int x, v4] st G = mc_ev X 22 7 [v0, v1, v2, .int x, v4] (.int x :: st) G) ∧
  (∀ (x y : Int32) (ls st : List Value) (G : mc_H), st.length ≤ 4 → mc_ev X 22 7 ls (.int y :: .int x :: st) G = mc_ev X 22 10 ls (.int (if y < x then y else x) :: st) G) ∧
  (∀ (v0 v1 v2 v3 v4 : Value) (x : Int32) (st : List Value) (G : mc_H), mc_ev X 22 10 [v0, v1, v2, v3, v4] (.int x :: st) G = mc_ev X 22 12 [v0, v1, v2, v3, .int x] st G) ∧
  (∀ (v1 v2 v3 v4 : Value) (x : Nat) (st : List Value) (G : mc_H), mc_ev X 22 12 [.ref x, v1, v2, v3, v4] st G = mc_ev X 22 13 [.ref x, v1, v2, v3, v4] (.ref x :: st) G) ∧
  (∀ (r : Nat) (ls st : List Value) (G : mc_H), mc_ev X 22 13 ls (.ref r :: st) G = (mc_getf G r 3 0).bind (fun v => mc_ev X 22 16 ls (v :: st) G)) ∧
  (∀ (v0 v2 v3 v4 : Value) (x : Int32) (st : List Value) (G : mc_H), mc_ev X 22 16 [v0, .int x, v2, v3, v4] st G = mc_ev X 22 17 [v0, .int x, v2, v3, v4] (.int x :: st) G) ∧
  (∀ (ls st : List Value) (G : mc_H), mc_ev X 22 17 ls st G = mc_ev X 22 19 ls (.int 7 :: st) G) ∧
  (∀ (x y : Int32) (ls st : List Value) (G : mc_H), mc_ev X 22 19 ls (.int y :: .int x :: st) G = mc_ev X 22 20 ls (.int (x * y) :: st) G) ∧
  (∀ (v0 v1 v3 v4 : Value) (x : Int32) (st : List Value) (G : mc_H), mc_ev X 22 20 [v0, v1, .int x, v3, v4] st G = mc_ev X 22 21 [v0, v1, .int x, v3, v4] (.int x :: st) G) ∧
  (∀ (x y : Int32) (ls st : List Value) (G : mc_H), mc_ev X 22 21 ls (.int y :: .int x :: st) G = mc_ev X 22 22 ls (.int (x + y) :: st) G) ∧
  (∀ (v0 v1 v2 v3 : Value) (x : Int32) (st : List Value) (G : mc_H), mc_ev X 22 22 [v0, v1, v2, v3, .int x] st G = mc_ev X 22 24 [v0, v1, v2, v3, .int x] (.int x :: st) G) ∧
  (∀ (x i : Int32) (r : Nat) (ls st : List Value) (G : mc_H), mc_ev X 22 24 ls (.int x :: .int i :: .ref r :: st) G = (mc_setA G 0 r i x).bind (fun G' => mc_ev X 22 25 ls st G')) ∧
  (∀ (v1 v2 v3 v4 : Value) (x : Nat) (st : List Value) (G : mc_H), mc_ev X 22 25 [.ref x, v1, v2, v3, v4] st G = mc_ev X 22 26 [.ref x, v1, v2, v3, v4] (.ref x :: st) G) ∧
  (∀ (r : Nat) (ls st : List Value) (G : mc_H), mc_ev X 22 26 ls (.ref r :: st) G = (mc_getf G r 3 0).bind (fun v => mc_ev X 22 29 ls (v :: st) G)) ∧
  (∀ (v0 v1 v3 v4 : Value) (x : Int32) (st : List Value) (G : mc_H), mc_ev X 22 29 [v0, v1, .int x, v3, v4] st G = mc_ev X 22 30 [v0, v1, .int x, v3, v4] (.int x :: st) G) ∧
  (∀ (ls st : List Value) (G : mc_H), mc_ev X 22 30 ls st G = mc_ev X 22 32 ls (.int 7 :: st) G) ∧
  (∀ (x y : Int32) (ls st : List Value) (G : mc_H), mc_ev X 22 32 ls (.int y :: .int x :: st) G = mc_ev X 22 33 ls (.int (x * y) :: st) G) ∧
  (∀ (v0 v2 v3 v4 : Value) (x : Int32) (st : List Value) (G : mc_H), mc_ev X 22 33 [v0, .int x, v2, v3, v4] st G = mc_ev X 22 34 [v0, .int x, v2, v3, v4] (.int x :: st) G) ∧
  (∀ (x y : Int32) (ls st : List Value) (G : mc_H), mc_ev X 22 34 ls (.int y :: .int x :: st) G = mc_ev X 22 35 ls (.int (x + y) :: st) G) ∧
  (∀ (v0 v1 v2 v3 : Value) (x : Int32) (st : List Value) (G : mc_H), mc_ev X 22 35 [v0, v1, v2, v3, .int x] st G = mc_ev X 22 37 [v0, v1, v2, v3, .int x] (.int x :: st) G) ∧
  (∀ (x i : Int32) (r : Nat) (ls st : List Value) (G : mc_H), mc_ev X 22 37 ls (.int x :: .int i :: .ref r :: st) G = (mc_setA G 0 r i x).bind (fun G' => mc_ev X 22 38 ls st G')) ∧
  (∀ (ls : List Value) (G : mc_H), mc_ev X 22 38 ls [] G = some (none, G)) := ⟨fun v1 v2 v3 v4 x st G => ev_aload_n rfl rfl,
  fun v0 v2 v3 v4 x st G => ev_iload_n rfl rfl,
  fun v0 v1 v3 v4 x st G => ev_iload_n rfl rfl,
  fun a0 a1 r ls st G hr hG => ev_virt (As := [.int a0, .int a1]) rfl rfl rfl rfl rfl rfl hr hG,
  fun v0 v1 v2 v4 x st G => ev_iload_n rfl rfl,
  fun x y ls st G hr => ev_min rfl hr,
  fun v0 v1 v2 v3 v4 x st G => ev_istore (X := X) (k := 22) (pc := 10) (ls := [v0, v1, v2, v3, v4]) (st := st) (G := G) (j := 4) (x := x) rfl (Nat.le_of_ble_eq_true rfl),
  fun v1 v2 v3 v4 x st G => ev_aload_n rfl rfl,
  fun r ls st G => ev_getfield rfl,
  fun v0 v2 v3 v4 x st G => ev_iload_n rfl rfl,
  fun ls st G => ev_bipush rfl rfl,
  fun x y ls st G => ev_imul rfl,
  fun v0 v1 v3 v4 x st G => ev_iload_n rfl rfl,
  fun x y ls st G => ev_iadd rfl,
  fun v0 v1 v2 v3 x st G => ev_iload rfl rfl,
  fun x i r ls st G => ev_iastore rfl,
  fun v1 v2 v3 v4 x st G => ev_aload_n rfl rfl,
  fun r ls st G => ev_getfield rfl,
  fun v0 v1 v3 v4 x st G => ev_iload_n rfl rfl,
  fun ls st G => ev_bipush rfl rfl,
  fun x y ls st G => ev_imul rfl,
  fun v0 v2 v3 v4 x st G => ev_iload_n rfl rfl,
  fun x y ls st G => ev_iadd rfl,
  fun v0 v1 v2 v3 x st G => ev_iload rfl rfl,
  fun x i r ls st G => ev_iastore rfl,
  fun ls G => ev_return rfl rfl⟩
theorem h_23_9 {X : mc_X} : ∀ (v0 v1 : Value) (x : Int32) (st : List Value) (G : mc_H), mc_ev X 23 9 [v0, v1, .int x] st G = mc_ev X 23 10 [v0, v1, .int x] (.int x :: st) G := fun v0 v1 x st G => ev_iload_n rfl rfl
theorem e_23 {X : mc_X} : (∀ (v1 v2 : Value) (x : Nat) (st : List Value) (G : mc_H), mc_ev X 23 0 [.ref x, v1, v2] st G = mc_ev X 23 1 [.ref x, v1, v2] (.ref x :: st) G) ∧
  (∀ (r : Nat) (ls st : List Value) (G : mc_H), mc_ev X 23 1 ls (.ref r :: st) G = (mc_getf G r 3 1).bind (fun v => mc_ev X 23 4 ls (v :: st) G)) ∧
  (∀ (ls st : List Value) (G : mc_H), mc_ev X 23 4 ls st G = mc_ev X 23 5 ls (.int 0 :: st) G) ∧
  (∀ (ls st : List Value) (G : mc_H), mc_ev X 23 5 ls st G = mc_ev X 23 6 ls (.int 0 :: st) G) ∧
  (∀ (x i : Int32) (r : Nat) (ls st : List Value) (G : mc_H), mc_ev X 23 6 ls (.int x :: .int i :: .ref r :: st) G = (mc_setA G 0 r i x).bind (fun G' => mc_ev X 23 7 ls st G')) ∧
  (∀ (ls st : List Value) (G : mc_H), mc_ev X 23 7 ls st G = mc_ev X 23 8 ls (.int 1 :: st) G) ∧
  (∀ (v0 v1 v2 : Value) (x : Int32) (st : List Value) (G : mc_H), mc_ev X 23 8 [v0, v1, v2] (.int x :: st) G = mc_ev X 23 9 [v0, v1, .int x] st G) ∧
  (∀ (v0 v2 : Value) (x : Int32) (st : List Value) (G : mc_H), mc_ev X 23 10 [v0, .int x, v2] st G = mc_ev X 23 11 [v0, .int x, v2] (.int x :: st) G) ∧
  (∀ (x y : Int32) (ls st : List Value) (G : mc_H), mc_ev X 23 11 ls (.int y :: .int x :: st) G = if y < x then mc_ev X 23 48 ls st G else mc_ev X 23 14 ls st G) ∧
  (∀ (v0 v1 : Value) (x : Int32) (st : List Value) (G : mc_H), mc_ev X 23 14 [v0, v1, .int x] st G = mc_ev X 23 15 [v0, v1, .int x] (.int x :: st) G) ∧
  (∀ (v0 v2 : Value) (x : Int32) (st : List Value) (G : mc_H), mc_ev X 23 15 [v0, .int x, v2] st G = mc_ev X 23 16 [v0, .int x, v2] (.int x :: st) G) ∧
  (∀ (ls st : List Value) (G : mc_H), mc_ev X 23 16 ls st G = mc_ev X 23 17 ls (.int (-1) :: st) G) ∧
  (∀ (x y : Int32) (ls st : List Value) (G : mc_H), mc_ev X 23 17 ls (.int y :: .int x :: st) G = mc_ev X 23 18 ls (.int (x ^^^ y) :: st) G) ∧
  (∀ (x y : Int32) (ls st : List Value) (G : mc_H), mc_ev X 23 18 ls (.int y :: .int x :: st) G = mc_ev X 23 19 ls (.int (x &&& y) :: st) G) ∧
  (∀ (x : Int32) (ls st : List Value) (G : mc_H), mc_ev X 23 19 ls (.int x :: st) G = if x = 0 then mc_ev X 23 22 ls st G else mc_ev X 23 42 ls st G) ∧
  (∀ (v0 v1 : Value) (x : Int32) (st : List Value) (G : mc_H), mc_ev X 23 22 [v0, v1, .int x] st G = mc_ev X 23 23 [v0, v1, .int x] (.int x :: st) G) ∧
  (∀ (a0 : Int32) (ls st : List Value) (G : mc_H), st.length ≤ 4 → mc_ev X 23 23 ls (.int a0 :: st) G = (mc_ev X 175 0 [.int a0] [] G).bind (fun q => mc_ev X 23 26 ls (q.1.toList ++ st) q.2)) ∧
  (∀ (ls st : List Value) (G : mc_H), mc_ev X 23 26 ls st G = mc_ev X 23 27 ls (.int 2 :: st) G) ∧
  (∀ (x y : Int32) (ls st : List Value) (G : mc_H), mc_ev X 23 27 ls (.int y :: .int x :: st) G = if y = 0 then none else mc_ev X 23 28 ls (.int (x - x / y * y) :: st) G) ∧
  (∀ (x : Int32) (ls st : List Value) (G : mc_H), mc_ev X 23 28 ls (.int x :: st) G = if x = 0 then mc_ev X 23 31 ls st G else mc_ev X 23 42 ls st G) ∧
  (∀ (v1 v2 : Value) (x : Nat) (st : List Value) (G : mc_H), mc_ev X 23 31 [.ref x, v1, v2] st G = mc_ev X 23 32 [.ref x, v1, v2] (.ref x :: st) G) ∧
  (∀ (r : Nat) (ls st : List Value) (G : mc_H), mc_ev X 23 32 ls (.ref r :: st) G = (mc_getf G r 3 1).bind (fun v => mc_ev X 23 35 ls (v :: st) G)) ∧
  (∀ (v0 v1 : Value) (x : Int32) (st : List Value) (G : mc_H), mc_ev X 23 35 [v0, v1, .int x] st G = mc_ev X 23 36 [v0, v1, .int x] (.int x :: st) G) ∧
  (∀ (v1 v2 : Value) (x : Nat) (st : List Value) (G : mc_H), mc_ev X 23 36 [.ref x, v1, v2] st G = mc_ev X 23 37 [.ref x, v1, v2] (.ref x :: st) G) ∧
  (∀ (v0 v1 : Value) (x : Int32) (st : List Value) (G : mc_H), mc_ev X 23 37 [v0, v1, .int x] st G = mc_ev X 23 38 [v0, v1, .int x] (.int x :: st) G) ∧
  (∀ (a0 : Int32) (r : Nat) (ls st : List Value) (G : mc_H), st.length ≤ 4 → mc_cls G r = some 3 → mc_ev X 23 38 ls (.int a0 :: .ref r :: st) G = (mc_ev X 24 0 [.ref r, .int a0, .null, .null, .null, .null] [] G).bind (fun q => mc_ev X 23 41 ls (q.1.toList ++ st) q.2)) ∧
  (∀ (x i : Int32) (r : Nat) (ls st : List Value) (G : mc_H), mc_ev X 23 41 ls (.int x :: .int i :: .ref r :: st) G = (mc_setA G 0 r i x).bind (fun G' => mc_ev X 23 42 ls st G')) ∧
  (∀ (v0 v1 : Value) (x : Int32) (st : List Value) (G : mc_H), mc_ev X 23 42 [v0, v1, .int x] st G = mc_ev X 23 45 [v0, v1, .int (x + 1)] st G) ∧
  (∀ (ls st : List Value) (G : mc_H), mc_ev X 23 45 ls st G = mc_ev X 23 9 ls st G) ∧
  (∀ (v1 v2 : Value) (x : Nat) (st : List Value) (G : mc_H), mc_ev X 23 48 [.ref x, v1, v2] st G = mc_ev X 23 49 [.ref x, v1, v2] (.ref x :: st) G) ∧
  (∀ (r : Nat) (ls st : List Value) (G : mc_H), mc_ev X 23 49 ls (.ref r :: st) G = (mc_getf G r 3 1).bind (fun v => mc_ev X 23 52 ls (v :: st) G)) ∧
  (∀ (v0 v2 : Value) (x : Int32) (st : List Value) (G : mc_H), mc_ev X 23 52 [v0, .int x, v2] st G = mc_ev X 23 53 [v0, .int x, v2] (.int x :: st) G) ∧
  (∀ (i : Int32) (r : Value) (ls st : List Value) (G : mc_H), mc_ev X 23 53 ls (.int i :: r :: st) G = (mc_getA X G 0 r i).bind (fun x => mc_ev X 23 54 ls (.int x :: st) G)) ∧
  (∀ (v : Int32) (ls : List Value) (G : mc_H), mc_ev X 23 54 ls [.int v] G = some (some (.int v), G)) := ⟨fun v1 v2 x st G => ev_aload_n rfl rfl,
  fun r ls st G => ev_getfield rfl,
  fun ls st G => ev_iconst rfl rfl,
  fun ls st G => ev_iconst rfl rfl,
  fun x i r ls st G => ev_iastore rfl,
  fun ls st G => ev_iconst rfl rfl,
  fun v0 v1 v2 x st G => ev_istore_n (X := X) (k := 23) (pc := 8) (ls := [v0, v1, v2]) (st := st) (G := G) (j := 2) (x := x) rfl (Nat.le_of_ble_eq_true rfl),
  fun v0 v2 x st G => ev_iload_n rfl rfl,
  fun x y ls st G => ev_br rfl rfl,
  fun v0 v1 x st G => ev_iload_n rfl rfl,
  fun v0 v2 x st G => ev_iload_n rfl rfl,
  fun ls st G => ev_iconst rfl rfl,
  fun x y ls st G => ev_ixor rfl,
  fun x y ls st G => ev_iand rfl,
  fun x ls st G => ev_br rfl rfl,
  fun v0 v1 x st G => ev_iload_n rfl rfl,
  fun a0 ls st G hr => ev_stat (As := [.int a0]) rfl (by decide) rfl rfl rfl rfl hr,
  fun ls st G => ev_iconst rfl rfl,
  fun x y ls st G => ev_irem rfl,
  fun x ls st G => ev_br rfl rfl,
  fun v1 v2 x st G => ev_aload_n rfl rfl,
  fun r ls st G => ev_getfield rfl,
  fun v0 v1 x st G => ev_iload_n rfl rfl,
  fun v1 v2 x st G => ev_aload_n rfl rfl,
  fun v0 v1 x st G => ev_iload_n rfl rfl,
  fun a0 r ls st G hr hG => ev_virt (As := [.int a0]) rfl rfl rfl rfl rfl rfl hr hG,
  fun x i r ls st G => ev_iastore rfl,
  fun v0 v1 x st G => ev_iinc (X := X) (k := 23) (pc := 42) (ls := [v0, v1, .int x]) (st := st) (G := G) (j := 2) (n := 1) (x := x) (v := 1) rfl rfl rfl,
  fun ls st G => ev_goto rfl rfl,
  fun v1 v2 x st G => ev_aload_n rfl rfl,
  fun r ls st G => ev_getfield rfl,
  fun v0 v2 x st G => ev_iload_n rfl rfl,
  fun i r ls st G => ev_iaload rfl,
  fun v ls G => ev_ireturn rfl rfl⟩
theorem h_24_13 {X : mc_X} : ∀ (v0 v1 v2 v3 v5 : Value) (x : Int32) (st : List Value) (G : mc_H), mc_ev X 24 13 [v0, v1, v2, v3, .int x, v5] st G = mc_ev X 24 15 [v0, v1, v2, v3, .int x, v5] (.int x :: st) G := fun v0 v1 v2 v3 v5 x st G => ev_iload rfl rfl
theorem e_24 {X : mc_X} : (∀ (v0 v2 v3 v4 v5 : Value) (x : Int32) (st : List Value) (G : mc_H), mc_ev X 24 0 [v0, .int x, v2, v3, v4, v5] st G = mc_ev X 24 1 [v0, .int x, v2, v3, v4, v5] (.int x :: st) G) ∧
  (∀ (a0 : Int32) (ls st : List Value) (G : mc_H), st.length ≤ 4 → mc_ev X 24 1 ls (.int a0 :: st) G = (mc_ev X 25 0 [.int a0, .null] [] G).bind (fun q => mc_ev X 24 4 ls (q.1.toList ++ st) q.2)) ∧
  (∀ (v0 v1 v2 v3 v4 v5 : Value) (x : Int32) (st : List Value) (G : mc_H), mc_ev X 24 4 [v0, v1, v2, v3, v4, v5] (.int x :: st) G = mc_ev X 24 5 [v0, v1, .int x, v3, v4, v5] st G) ∧
  (∀ (ls st : List Value) (G : mc_H), mc_ev X 24 5 ls st G = mc_ev X 24 7 ls (.int 10000000 :: st) G) ∧
  (∀ (v0 v1 v2 v3 v4 v5 : Value) (x : Int32) (st : List Value) (G : mc_H), mc_ev X 24 7 [v0, v1, v2, v3, v4, v5] (.int x :: st) G = mc_ev X 24 8 [v0, v1, v2, .int x, v4, v5] st G) ∧
  (∀ (v0 v1 v3 v4 v5 : Value) (x : Int32) (st : List Value) (G : mc_H), mc_ev X 24 8 [v0, v1, .int x, v3, v4, v5] st G = mc_ev X 24 9 [v0, v1, .int x, v3, v4, v5] (.int x :: st) G) ∧
  (∀ (ls st : List Value) (G : mc_H), mc_ev X 24 9 ls st G = mc_ev X 24 10 ls (.int 1 :: st) G) ∧
  (∀ (x y : Int32) (ls st : List Value) (G : mc_H), mc_ev X 24 10 ls (.int y :: .int x :: st) G = mc_ev X 24 11 ls (.int (x + y) :: st) G) ∧
  (∀ (v0 v1 v2 v3 v4 v5 : Value) (x : Int32) (st : List Value) (G : mc_H), mc_ev X 24 11 [v0, v1, v2, v3, v4, v5] (.int x :: st) G = mc_ev X 24 13 [v0, v1, v2, v3, .int x, v5] st G) ∧
  (∀ (ls st : List Value) (G : mc_H), mc_ev X 24 15 ls st G = mc_ev X 24 17 ls (.int 7 :: st) G) ∧
  (∀ (x y : Int32) (ls st : List Value) (G : mc_H), mc_ev X 24 17 ls (.int y :: .int x :: st) G = if x < y then mc_ev X 24 20 ls st G else mc_ev X 24 68 ls st G) ∧
  (∀ (v0 v2 v3 v4 v5 : Value) (x : Int32) (st : List Value) (G : mc_H), mc_ev X 24 20 [v0, .int x, v2, v3, v4, v5] st G = mc_ev X 24 21 [v0, .int x, v2, v3, v4, v5] (.int x :: st) G) ∧
  (∀ (v0 v1 v2 v3 v5 : Value) (x : Int32) (st : List Value) (G : mc_H), mc_ev X 24 21 [v0, v1, v2, v3, .int x, v5] st G = mc_ev X 24 23 [v0, v1, v2, v3, .int x, v5] (.int x :: st) G) ∧
  (∀ (x y : Int32) (ls st : List Value) (G : mc_H), mc_ev X 24 23 ls (.int y :: .int x :: st) G = mc_ev X 24 24 ls (.int (x >>> (y &&& 31)) :: st) G) ∧
  (∀ (ls st : List Value) (G : mc_H), mc_ev X 24 24 ls st G = mc_ev X 24 25 ls (.int 1 :: st) G) ∧
  (∀ (x y : Int32) (ls st : List Value) (G : mc_H), mc_ev X 24 25 ls (.int y :: .int x :: st) G = mc_ev X 24 26 ls (.int (x &&& y) :: st) G) ∧
  (∀ (ls st : List Value) (G : mc_H), mc_ev X 24 26 ls st G = mc_ev X 24 27 ls (.int 1 :: st) G) ∧
  (∀ (x y : Int32) (ls st : List Value) (G : mc_H), mc_ev X 24 27 ls (.int y :: .int x :: st) G = if x = y then mc_ev X 24 30 ls st G else mc_ev X 24 62 ls st G) ∧
  (∀ (v0 v2 v3 v4 v5 : Value) (x : Int32) (st : List Value) (G : mc_H), mc_ev X 24 30 [v0, .int x, v2, v3, v4, v5] st G = mc_ev X 24 31 [v0, .int x, v2, v3, v4, v5] (.int x :: st) G) ∧
  (∀ (ls st : List Value) (G : mc_H), mc_ev X 24 31 ls st G = mc_ev X 24 32 ls (.int 1 :: st) G) ∧
  (∀ (v0 v1 v3 v4 v5 : Value) (x : Int32) (st : List Value) (G : mc_H), mc_ev X 24 32 [v0, v1, .int x, v3, v4, v5] st G = mc_ev X 24 33 [v0, v1, .int x, v3, v4, v5] (.int x :: st) G) ∧
  (∀ (x y : Int32) (ls st : List Value) (G : mc_H), mc_ev X 24 33 ls (.int y :: .int x :: st) G = mc_ev X 24 34 ls (.int (x <<< (y &&& 31)) :: st) G) ∧
  (∀ (x y : Int32) (ls st : List Value) (G : mc_H), mc_ev X 24 34 ls (.int y :: .int x :: st) G = mc_ev X 24 35 ls (.int (x ^^^ y) :: st) G) ∧
  (∀ (ls st : List Value) (G : mc_H), mc_ev X 24 35 ls st G = mc_ev X 24 36 ls (.int 1 :: st) G) ∧
  (∀ (v0 v1 v2 v3 v5 : Value) (x : Int32) (st : List Value) (G : mc_H), mc_ev X 24 36 [v0, v1, v2, v3, .int x, v5] st G = mc_ev X 24 38 [v0, v1, v2, v3, .int x, v5] (.int x :: st) G) ∧
  (∀ (x y : Int32) (ls st : List Value) (G : mc_H), mc_ev X 24 38 ls (.int y :: .int x :: st) G = mc_ev X 24 39 ls (.int (x <<< (y &&& 31)) :: st) G) ∧
  (∀ (x y : Int32) (ls st : List Value) (G : mc_H), mc_ev X 24 39 ls (.int y :: .int x :: st) G = mc_ev X 24 40 ls (.int (x ^^^ y) :: st) G) ∧
  (∀ (v0 v1 v2 v3 v4 v5 : Value) (x : Int32) (st : List Value) (G : mc_H), mc_ev X 24 40 [v0, v1, v2, v3, v4, v5] (.int x :: st) G = mc_ev X 24 42 [v0, v1, v2, v3, v4, .int x] st G) ∧
  (∀ (v0 v1 v2 v4 v5 : Value) (x : Int32) (st : List Value) (G : mc_H), mc_ev X 24 42 [v0, v1, v2, .int x, v4, v5] st G = mc_ev X 24 43 [v0, v1, v2, .int x, v4, v5] (.int x :: st) G) ∧
  (∀ (v1 v2 v3 v4 v5 : Value) (x : Nat) (st : List Value) (G : mc_H), mc_ev X 24 43 [.ref x, v1, v2, v3, v4, v5] st G = mc_ev X 24 44 [.ref x, v1, v2, v3, v4, v5] (.ref x :: st) G) ∧
  (∀ (v0 v1 v3 v4 v5 : Value) (x : Int32) (st : List Value) (G : mc_H), mc_ev X 24 44 [v0, v1, .int x, v3, v4, v5] st G = mc_ev X 24 45 [v0, v1, .int x, v3, v4, v5] (.int x :: st) G) ∧
  (∀ (v0 v1 v2 v3 v5 : Value) (x : Int32) (st : List Value) (G : mc_H), mc_ev X 24 45 [v0, v1, v2, v3, .int x, v5] st G = mc_ev X 24 47 [v0, v1, v2, v3, .int x, v5] (.int x :: st) G) ∧
  (∀ (a0 : Int32) (a1 : Int32) (r : Nat) (ls st : List Value) (G : mc_H), st.length ≤ 4 → mc_cls G r = some 3 → mc_ev X 24 47 ls (.int a1 :: .int a0 :: .ref r :: st) G = (mc_ev X 19 0 [.ref r, .int a0, .int a1] [] G).bind (fun q => mc_ev X 24 50 ls (q.1.toList ++ st) q.2)) ∧
  (∀ (v1 v2 v3 v4 v5 : Value) (x : Nat) (st : List Value) (G : mc_H), mc_ev X 24 50 [.ref x, v1, v2, v3, v4, v5] st G = mc_ev X 24 51 [.ref x, v1, v2, v3, v4, v5] (.ref x :: st) G) ∧
  (∀ (r : Nat) (ls st : List Value) (G : mc_H), mc_ev X 24 51 ls (.ref r :: st) G = (mc_getf G r 3 1).bind (fun v => mc_ev X 24 54 ls (v :: st) G)) ∧
  (∀ (v0 v1 v2 v3 v4 : Value) (x : Int32) (st : List Value) (G : mc_H), mc_ev X 24 54 [v0, v1, v2, v3, v4, .int x] st G = mc_ev X 24 56 [v0, v1, v2, v3, v4, .int x] (.int x :: st) G) ∧
  (∀ (i : Int32) (r : Value) (ls st : List Value) (G : mc_H), mc_ev X 24 56 ls (.int i :: r :: st) G = (mc_getA X G 0 r i).bind (fun x => mc_ev X 24 57 ls (.int x :: st) G)) ∧
  (∀ (x y : Int32) (ls st : List Value) (G : mc_H), mc_ev X 24 57 ls (.int y :: .int x :: st) G = mc_ev X 24 58 ls (.int (x + y) :: st) G) ∧
  (∀ (x y : Int32) (ls st : List Value) (G : mc_H), st.length ≤ 4 → mc_ev X 24 58 ls (.int y :: .int x :: st) G = mc_ev X 24 61 ls (.int (if y < x then y else x) :: st) G) ∧
  (∀ (v0 v1 v2 v3 v4 v5 : Value) (x : Int32) (st : List Value) (G : mc_H), mc_ev X 24 61 [v0, v1, v2, v3, v4, v5] (.int x :: st) G = mc_ev X 24 62 [v0, v1, v2, .int x, v4, v5] st G) ∧
  (∀ (v0 v1 v2 v3 v5 : Value) (x : Int32) (st : List Value) (G : mc_H), mc_ev X 24 62 [v0, v1, v2, v3, .int x, v5] st G = mc_ev X 24 65 [v0, v1, v2, v3, .int (x + 1), v5] st G) ∧
  (∀ (ls st : List Value) (G : mc_H), mc_ev X 24 65 ls st G = mc_ev X 24 13 ls st G) ∧
  (∀ (v0 v1 v2 v4 v5 : Value) (x : Int32) (st : List Value) (G : mc_H), mc_ev X 24 68 [v0, v1, v2, .int x, v4, v5] st G = mc_ev X 24 69 [v0, v1, v2, .int x, v4, v5] (.int x :: st) G) ∧
  (∀ (v : Int32) (ls : List Value) (G : mc_H), mc_ev X 24 69 ls [.int v] G = some (some (.int v), G)) := ⟨fun v0 v2 v3 v4 v5 x st G => ev_iload_n rfl rfl,
  fun a0 ls st G hr => ev_stat (As := [.int a0]) rfl (by decide) rfl rfl rfl rfl hr,
  fun v0 v1 v2 v3 v4 v5 x st G => ev_istore_n (X := X) (k := 24) (pc := 4) (ls := [v0, v1, v2, v3, v4, v5]) (st := st) (G := G) (j := 2) (x := x) rfl (Nat.le_of_ble_eq_true rfl),
  fun ls st G => ev_ldc rfl rfl,
  fun v0 v1 v2 v3 v4 v5 x st G => ev_istore_n (X := X) (k := 24) (pc := 7) (ls := [v0, v1, v2, v3, v4, v5]) (st := st) (G := G) (j := 3) (x := x) rfl (Nat.le_of_ble_eq_true rfl),
  fun v0 v1 v3 v4 v5 x st G => ev_iload_n rfl rfl,
  fun ls st G => ev_iconst rfl rfl,
  fun x y ls st G => ev_iadd rfl,
  fun v0 v1 v2 v3 v4 v5 x st G => ev_istore (X := X) (k := 24) (pc := 11) (ls := [v0, v1, v2, v3, v4, v5]) (st := st) (G := G) (j := 4) (x := x) rfl (Nat.le_of_ble_eq_true rfl),
  fun ls st G => ev_bipush rfl rfl,
  fun x y ls st G => ev_br rfl rfl,
  fun v0 v2 v3 v4 v5 x st G => ev_iload_n rfl rfl,
  fun v0 v1 v2 v3 v5 x st G => ev_iload rfl rfl,
  fun x y ls st G => ev_ishr rfl,
  fun ls st G => ev_iconst rfl rfl,
  fun x y ls st G => ev_iand rfl,
  fun ls st G => ev_iconst rfl rfl,
  fun x y ls st G => ev_br rfl rfl,
  fun v0 v2 v3 v4 v5 x st G => ev_iload_n rfl rfl,
  fun ls st G => ev_iconst rfl rfl,
  fun v0 v1 v3 v4 v5 x st G => ev_iload_n rfl rfl,
  fun x y ls st G => ev_ishl rfl,
  fun x y ls st G => ev_ixor rfl,
  fun ls st G => ev_iconst rfl rfl,
  fun v0 v1 v2 v3 v5 x st G => ev_iload rfl rfl,
  fun x y ls st G => ev_ishl rfl,
  fun x y ls st G => ev_ixor rfl,
  fun v0 v1 v2 v3 v4 v5 x st G => ev_istore (X := X) (k := 24) (pc := 40) (ls := [v0, v1, v2, v3, v4, v5]) (st := st) (G := G) (j := 5) (x := x) rfl (Nat.le_of_ble_eq_true rfl),
  fun v0 v1 v2 v4 v5 x st G => ev_iload_n rfl rfl,
  fun v1 v2 v3 v4 v5 x st G => ev_aload_n rfl rfl,
  fun v0 v1 v3 v4 v5 x st G => ev_iload_n rfl rfl,
  fun v0 v1 v2 v3 v5 x st G => ev_iload rfl rfl,
  fun a0 a1 r ls st G hr hG => ev_virt (As := [.int a0, .int a1]) rfl rfl rfl rfl rfl rfl hr hG,
  fun v1 v2 v3 v4 v5 x st G => ev_aload_n rfl rfl,
  fun r ls st G => ev_getfield rfl,
  fun v0 v1 v2 v3 v4 x st G => ev_iload rfl rfl,
  fun i r ls st G => ev_iaload rfl,
  fun x y ls st G => ev_iadd rfl,
  fun x y ls st G hr => ev_min rfl hr,
  fun v0 v1 v2 v3 v4 v5 x st G => ev_istore_n (X := X) (k := 24) (pc := 61) (ls := [v0, v1, v2, v3, v4, v5]) (st := st) (G := G) (j := 3) (x := x) rfl (Nat.le_of_ble_eq_true rfl),
  fun v0 v1 v2 v3 v5 x st G => ev_iinc (X := X) (k := 24) (pc := 62) (ls := [v0, v1, v2, v3, .int x, v5]) (st := st) (G := G) (j := 4) (n := 1) (x := x) (v := 1) rfl rfl rfl,
  fun ls st G => ev_goto rfl rfl,
  fun v0 v1 v2 v4 v5 x st G => ev_iload_n rfl rfl,
  fun v ls G => ev_ireturn rfl rfl⟩
theorem h_25_2 {X : mc_X} : ∀ (v0 : Value) (x : Int32) (st : List Value) (G : mc_H), mc_ev X 25 2 [v0, .int x] st G = mc_ev X 25 3 [v0, .int x] (.int x :: st) G := fun v0 x st G => ev_iload_n rfl rfl
theorem e_25 {X : mc_X} : (∀ (ls st : List Value) (G : mc_H), mc_ev X 25 0 ls st G = mc_ev X 25 1 ls (.int 0 :: st) G) ∧
  (∀ (v0 v1 : Value) (x : Int32) (st : List Value) (G : mc_H), mc_ev X 25 1 [v0, v1] (.int x :: st) G = mc_ev X 25 2 [v0, .int x] st G) ∧
  (∀ (ls st : List Value) (G : mc_H), mc_ev X 25 3 ls st G = mc_ev X 25 5 ls (.int 6 :: st) G) ∧
  (∀ (x y : Int32) (ls st : List Value) (G : mc_H), mc_ev X 25 5 ls (.int y :: .int x :: st) G = if x < y then mc_ev X 25 8 ls st G else mc_ev X 25 22 ls st G) ∧
  (∀ (v1 : Value) (x : Int32) (st : List Value) (G : mc_H), mc_ev X 25 8 [.int x, v1] st G = mc_ev X 25 9 [.int x, v1] (.int x :: st) G) ∧
  (∀ (v0 : Value) (x : Int32) (st : List Value) (G : mc_H), mc_ev X 25 9 [v0, .int x] st G = mc_ev X 25 10 [v0, .int x] (.int x :: st) G) ∧
  (∀ (x y : Int32) (ls st : List Value) (G : mc_H), mc_ev X 25 10 ls (.int y :: .int x :: st) G = mc_ev X 25 11 ls (.int (x >>> (y &&& 31)) :: st) G) ∧
  (∀ (ls st : List Value) (G : mc_H), mc_ev X 25 11 ls st G = mc_ev X 25 12 ls (.int 1 :: st) G) ∧
  (∀ (x y : Int32) (ls st : List Value) (G : mc_H), mc_ev X 25 12 ls (.int y :: .int x :: st) G = mc_ev X 25 13 ls (.int (x &&& y) :: st) G) ∧
  (∀ (x : Int32) (ls st : List Value) (G : mc_H), mc_ev X 25 13 ls (.int x :: st) G = if x = 0 then mc_ev X 25 16 ls st G else mc_ev X 25 22 ls st G) ∧
  (∀ (v0 : Value) (x : Int32) (st : List Value) (G : mc_H), mc_ev X 25 16 [v0, .int x] st G = mc_ev X 25 19 [v0, .int (x + 1)] st G) ∧
  (∀ (ls st : List Value) (G : mc_H), mc_ev X 25 19 ls st G = mc_ev X 25 2 ls st G) ∧
  (∀ (v0 : Value) (x : Int32) (st : List Value) (G : mc_H), mc_ev X 25 22 [v0, .int x] st G = mc_ev X 25 23 [v0, .int x] (.int x :: st) G) ∧
  (∀ (v : Int32) (ls : List Value) (G : mc_H), mc_ev X 25 23 ls [.int v] G = some (some (.int v), G)) := ⟨fun ls st G => ev_iconst rfl rfl,
  fun v0 v1 x st G => ev_istore_n (X := X) (k := 25) (pc := 1) (ls := [v0, v1]) (st := st) (G := G) (j := 1) (x := x) rfl (Nat.le_of_ble_eq_true rfl),
  fun ls st G => ev_bipush rfl rfl,
  fun x y ls st G => ev_br rfl rfl,
  fun v1 x st G => ev_iload_n rfl rfl,
  fun v0 x st G => ev_iload_n rfl rfl,
  fun x y ls st G => ev_ishr rfl,
  fun ls st G => ev_iconst rfl rfl,
  fun x y ls st G => ev_iand rfl,
  fun x ls st G => ev_br rfl rfl,
  fun v0 x st G => ev_iinc (X := X) (k := 25) (pc := 16) (ls := [v0, .int x]) (st := st) (G := G) (j := 1) (n := 1) (x := x) (v := 1) rfl rfl rfl,
  fun ls st G => ev_goto rfl rfl,
  fun v0 x st G => ev_iload_n rfl rfl,
  fun v ls G => ev_ireturn rfl rfl⟩
