def sp_L_isSo_j59s0 (M : Nat → Nat → Int32) (kb : Nat) (kw : Nat) : Int32 := if (M 1 ((4 * (nI kw)).toNatClampNeg)) = 1 then (if (M 1 (((4 * (nI kw)) + 1).toNatClampNeg)) = (nI kb) then 1 else 0) else 0
def sp_L_isSo_L42 (M : Nat → Nat → Int32) (kb : Nat) : Nat → Int32
  | 0 => 0
  | kw + 1 => (sp_L_isSo_L42 M kb kw) + (sp_L_isSo_j59s0 M kb kw)
