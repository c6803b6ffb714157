/-! what is told of a method -/
def mc_meth (mi : Nat) : mc_M := mc_mt.getD mi (0, yX0_init, cX0_init, 0, none, true, 0, 0, 0, 0, 0, 0)
def mc_own (mi : Nat) : Nat := (mc_meth mi).1
def mc_y (mi : Nat) : MethodName := (mc_meth mi).2.1
def mc_by (mi : Nat) : ByteArray := (mc_meth mi).2.2.1
def mc_ml (mi : Nat) : Nat := (mc_meth mi).2.2.2.1
def mc_rt (mi : Nat) : Option FieldType := (mc_meth mi).2.2.2.2.1
def mc_stc (mi : Nat) : Bool := (mc_meth mi).2.2.2.2.2.1
def mc_np (mi : Nat) : Nat := (mc_meth mi).2.2.2.2.2.2.1
def mc_rk (mi : Nat) : Nat := (mc_meth mi).2.2.2.2.2.2.2.1
def mc_nm (own : Nat) : String := mc_cn.getD own ""
