/-! the tables are as the claim's words and bytes have them: by program -/
def mc_T (ci : Nat) : u_T := (vwCl.getD ci (RX0, TX0, 10)).2.1
def mc_N (ci : Nat) : Nat := (vwCl.getD ci (RX0, TX0, 10)).2.2
def mc_sn (i : Nat) : String := match i with
  | 0 => "WORTHS"
  | 1 => "POINT_TRACES"
  | _ => "WORTH_TRACES"
def mc_an (t : Nat) : String := match t with
  | 2 => RX5
  | _ => RX6
def mc_wd (E : mc_E) : Option Cond := lw_tbl[E.2.2.2.2.1]?
def mc_jmp (pc : Nat) (off : Int) : Bool := decide (0 ≤ (pc : Int) + off)
def mc_lk (own mi pc : Nat) (E : mc_E) : Bool := match E.1 with
  | .getfield i => decide (mc_wd E = some (Cond.fieldLink (mc_nm own) i (mc_T E.2.2.1 E.2.2.2.1).1 (mc_T E.2.2.1 E.2.2.2.1).2.1 (mc_T E.2.2.1 E.2.2.2.1).2.2.1)) && decide (E.2.2.1 < 9) && decide (E.2.2.2.1 < mc_N E.2.2.1)
  | .putfield i => decide (mc_wd E = some (Cond.fieldLink (mc_nm own) i (mc_T E.2.2.1 E.2.2.2.1).1 (mc_T E.2.2.1 E.2.2.2.1).2.1 (mc_T E.2.2.1 E.2.2.2.1).2.2.1)) && decide (E.2.2.1 < 9) && decide (E.2.2.2.1 < mc_N E.2.2.1) && (!(mc_T E.2.2.1 E.2.2.2.1).2.2.2 || (decide ((mc_y mi).name = "<init>") && decide ((mc_T E.2.2.1 E.2.2.2.1).1 = mc_nm own)))
  | .getstatic i => (if E.2.2.2.1 = 0 then decide (mc_wd E = some (Cond.fieldLink (mc_nm own) i "NeedlePlate" (mc_sn E.2.2.1) "[I")) else decide (mc_wd E = some (Cond.fieldLinkNest (mc_nm own) i "NeedlePlate" (mc_sn E.2.2.1) "[I" "NeedlePlate"))) && decide (E.2.2.1 < 3)
  | .ldc i => decide (mc_wd E = some (Cond.constant (mc_nm own) i (Int32.ofInt E.2.2.2.2.2)))
  | .ldc_w i => decide (mc_wd E = some (Cond.constant (mc_nm own) i (Int32.ofInt E.2.2.2.2.2)))
  | .ldc2_w i => decide (mc_wd E = some (Cond.constantLong (mc_nm own) i (Int64.ofInt E.2.2.2.2.2)))
  | .new i => decide (mc_wd E = some (Cond.classLink (mc_nm own) i (mc_nm E.2.2.1))) && decide (E.2.2.1 < 9)
  | .newarray t => decide ((E.2.2.1 = 0 ∧ t = .int) ∨ (E.2.2.1 = 1 ∧ t = .boolean))
  | .anewarray i => decide (mc_wd E = some (Cond.classLink (mc_nm own) i (mc_an E.2.2.1))) && decide (E.2.2.1 = 2 ∨ E.2.2.1 = 3)
  | .invokespecial i => if E.2.2.1 = 999 then decide (mc_wd E = some (Cond.methodLink (mc_nm own) i Lib.objectInit)) && decide (2 ≤ mc_rk mi)
    else (if E.2.2.2.1 = 0 then decide (mc_wd E = some (Cond.methodLink (mc_nm own) i (mc_y E.2.2.1))) else decide (mc_wd E = some (Cond.methodLinkNest (mc_nm own) i (mc_y E.2.2.1) "NeedlePlate"))) && decide (E.2.2.1 < mc_mt.length) && decide (mc_rk E.2.2.1 < mc_rk mi) && decide ((mc_y E.2.2.1).name = "<init>") && !mc_stc E.2.2.1 && decide (mc_rt E.2.2.1 = none)
  | .invokevirtual i => decide (mc_wd E = some (Cond.methodLink (mc_nm own) i (mc_y E.2.2.1))) && decide (E.2.2.1 < mc_mt.length) && decide (mc_rk E.2.2.1 < mc_rk mi) && !mc_stc E.2.2.1 && decide (mc_own E.2.2.1 < 9) && decide ((mc_y E.2.2.1).name ≠ "<init>")
  | .invokestatic i => if E.2.2.1 = 998 then decide (mc_wd E = some (Cond.methodLink (mc_nm own) i arraycopyName)) && decide (2 ≤ mc_rk mi)
    else decide (mc_wd E = some (Cond.methodLink (mc_nm own) i (mc_y E.2.2.1))) && decide (E.2.2.1 < mc_mt.length) && decide (mc_rk E.2.2.1 < mc_rk mi) && mc_stc E.2.2.1
  | .ifCond _ off => mc_jmp pc off
  | .if_icmp _ off => mc_jmp pc off
  | .goto off => mc_jmp pc off
  | .tableswitch d _ _ _ => mc_jmp pc d
  | .lookupswitch _ ps => (ps.toList.zip (ps.toList.drop 1)).all (fun (a, next) => a.1 < next.1)
  | _ => true
def mc_ck (own mi : Nat) (cc : ByteArray) (q : Option mc_E × Nat) : Bool := match q.1 with
  | some E => decide (decode cc q.2 = .ok (E.1, E.2.1)) && mc_lk own mi q.2 E
  | none => true
