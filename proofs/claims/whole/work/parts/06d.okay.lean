/-! every row is as it must be -/
def am_tw : List (Nat × Nat × Nat × Nat × Nat) := [(2, 38, 40, 42, 0), (2, 38, 49, 42, 0), (9, 211, 213, 215, 1), (9, 219, 221, 223, 2)]
def am_gs : List (Nat × Nat × Nat × Nat) := [(7, 84, 0, 1), (8, 34, 0, 1), (9, 246, 1, 0)]
def am_nl : List (Nat × Nat × Nat) := [(0, 23, 42), (0, 24, 11), (3, 65, 127), (4, 59, 126), (6, 40, 126), (8, 157, 126), (8, 196, 127), (9, 21, 65), (9, 31, 85), (9, 38, 20)]
def am_ln : Instr → Nat
  | .bipush _ => 2
  | .sipush _ => 3
  | .iload _ => 2
  | .lload _ => 2
  | .aload _ => 2
  | .istore _ => 2
  | .lstore _ => 2
  | .astore _ => 2
  | .iinc _ _ => 3
  | _ => 1
def am_kd (a k : Nat) : Bool := am_mw.any (fun q => q.1 == a && q.2.2.2.2 == k)
def am_okr (y : Nat) (r : am_Row) : Bool := match r with
  | (pc, i, n, a, b) => match i with
    | .getfield x => n == 3 && am_fl.any (fun q => q.1 == am_ow y && q.2.1 == x && q.2.2.1 == a && q.2.2.2.1 == b)
    | .putfield x => n == 3 && am_fl.any (fun q => q.1 == am_ow y && q.2.1 == x && q.2.2.1 == a && q.2.2.2.1 == b) && (!(am_F a b).2.2.2 || (am_ow y == a && decide ((am_ym y).name = "<init>")))
    | .getstatic x => n == 3 && am_gs.any (fun q => q.1 == am_ow y && q.2.1 == x && q.2.2.1 == a && q.2.2.2 == b)
    | .invokevirtual x => n == 3 && am_cm.any (fun q => q.1 == am_ow y && q.2.1 == x && q.2.2.1 == a) && am_kd a 0
    | .invokestatic x => n == 3 && ((b == 1 && am_cm.any (fun q => q.1 == am_ow y && q.2.1 == x && q.2.2.1 == a) && am_kd a 1 && decide (am_tb a = [])) || (b == 11 && am_cm.any (fun q => q.1 == am_ow y && q.2.1 == x && q.2.2.1 == a) && am_kd a 1 && decide (am_tb a ≠ [])) || (b == 5 && am_nl.any (fun q => q.1 == am_ow y && q.2.1 == x && q.2.2 == a) && am_kd a 1 && decide (am_tb a = [])) || (b == 7 && am_cx.any (fun q => q.1 == am_ow y && q.2.1 == x)) || (b == 8 && am_ci.any (fun q => q.1 == am_ow y && q.2.1 == x)) || (b == 9 && am_cc.any (fun q => q.1 == am_ow y && q.2.1 == x)))
    | .invokespecial x => n == 3 && ((b == 4 && am_co.any (fun q => q.1 == am_ow y && q.2.1 == x)) || (b == 3 && am_cm.any (fun q => q.1 == am_ow y && q.2.1 == x && q.2.2.1 == a) && am_kd a 2 && decide (am_tb a = [])) || (b == 6 && am_nl.any (fun q => q.1 == am_ow y && q.2.1 == x && q.2.2 == a) && am_kd a 2 && decide (am_tb a = [])) || b == 20)
    | .new x => n == 3 && ((b == 0 && am_kl_.any (fun q => q.1 == am_ow y && q.2.1 == x && q.2.2.1 == a) && decide (a < 11)) || (b == 1 && (match am_row y (pc + 4), am_row y (pc + 6) with
        | some (.ldc k, 2, _, _), some (.invokespecial j, 3, _, _) => am_tw.any (fun q => q.1 == am_ow y && q.2.1 == x && q.2.2.1 == k && q.2.2.2.1 == j && q.2.2.2.2 == a) && decide (am_row y (pc + 3) = some (.dup, 1, 0, 0)) && decide (am_row y (pc + 9) = some (.athrow, 1, 0, 0))
        | _, _ => false)))
    | .newarray t => n == 2 && decide (a = match t with | .int => 21 | .long => 22 | .byte => 23 | .boolean => 24 | .char => 25 | _ => 0)
    | .anewarray x => n == 3 && ((a == 26 && am_kl_.any (fun q => q.1 == am_ow y && q.2.1 == x && q.2.2.1 == 4)) || (a == 27 && am_kl_.any (fun q => q.1 == am_ow y && q.2.1 == x && q.2.2.1 == 1)))
    | .ldc x => n == 2 && (b == 1 || am_k4.any (fun q => q.1 == am_ow y && q.2.1 == x && q.2.2.1 == a))
    | .ldc2_w x => n == 3 && am_k8.any (fun q => q.1 == am_ow y && q.2.1 == x && q.2.2.1 == a)
    | .ifCond _ o => n == 3 && decide ((pc : Int) + o = (a : Int))
    | .if_icmp _ o => n == 3 && decide ((pc : Int) + o = (a : Int))
    | .ifnull o => n == 3 && decide ((pc : Int) + o = (a : Int))
    | .ifnonnull o => n == 3 && decide ((pc : Int) + o = (a : Int))
    | .goto o => n == 3 && decide ((pc : Int) + o = (a : Int))
    | .tableswitch _ _ _ _ => true
    | .ireturn => n == 1 && ((a == 0 && decide (am_rt y = some .int)) || (a == 1 && decide (am_rt y = some .boolean)))
    | .lreturn => n == 1 && decide (am_rt y = some .long)
    | .areturn => n == 1 && (decide (am_rt y = some (.object RX4)) || decide (am_rt y = some (.object RX1)))
    | .return_ => n == 1 && decide (am_rt y = none)
    | i => n == am_ln i
theorem am_ok_0 : ∀ y, y < 26 → 0 ≤ y → (am_rs.getD y []).all (am_okr y) = true := by decide +kernel
theorem am_ok_1 : ∀ y, y < 52 → 26 ≤ y → (am_rs.getD y []).all (am_okr y) = true := by decide +kernel
theorem am_ok_2 : ∀ y, y < 78 → 52 ≤ y → (am_rs.getD y []).all (am_okr y) = true := by decide +kernel
theorem am_ok_3 : ∀ y, y < 104 → 78 ≤ y → (am_rs.getD y []).all (am_okr y) = true := by decide +kernel
theorem am_ok_4 : ∀ y, y < 130 → 104 ≤ y → (am_rs.getD y []).all (am_okr y) = true := by decide +kernel
theorem am_ok_5 : ∀ y, y < 156 → 130 ≤ y → (am_rs.getD y []).all (am_okr y) = true := by decide +kernel
theorem am_ok_6 : ∀ y, y < 182 → 156 ≤ y → (am_rs.getD y []).all (am_okr y) = true := by decide +kernel
theorem am_ok_7 : ∀ y, y < 206 → 182 ≤ y → (am_rs.getD y []).all (am_okr y) = true := by decide +kernel
