def sp_L_files_L32 (M : Nat → Nat → Int32) (a : Nat) (b : Nat) : Nat → Int32
  | 0 => 0
  | kf + 1 => if (sp_L_files_L32 M a b kf) = 0 then (if ((M 4 ((8 * (nI kf)).toNatClampNeg)) + (M 4 (((8 * (nI kf)) + 1).toNatClampNeg))) = ((nI a) + (nI b)) then (if (M 4 ((8 * (nI kf)).toNatClampNeg)) = (nI a) then 1 else (if (M 4 ((8 * (nI kf)).toNatClampNeg)) = (nI b) then 1 else 0)) else 0) else 1
def sp_L_files_j115s0 (n : Nat) (M : Nat → Nat → Int32) (d : Nat) (a : Nat) (b : Nat) : Int32 := if (nI a) = (nI b) then 0 else (if (sp_L_files_L32 M a b d) = 0 then (if (sp_L_suspicion M n (nI a) (nI b)) < (M 0 1) then 0 else 1) else 0)
def sp_L_files_j198s0 (a : Nat) (b : Nat) : Int32 := if (nI b) ≤ (nI a) then (nI b) else (nI a)
def sp_L_files_j219s0 (a : Nat) (b : Nat) : Int32 := if (nI b) ≤ (nI a) then (nI a) else (nI b)
def sp_L_files_j264s0 (M : Nat → Nat → Int32) (a : Nat) (b : Nat) (k : Nat) : Int32 := if (sp_L_sign M (nI k) (nI a) (nI b)) ≤ 0 then 0 else (1 <<< ((nI k) &&& 31))
def sp_L_files_G (M : Nat → Nat → Int32) (d a b : Nat) : Nat → Int32
  | 0 => M 4 (((8 * (nI d)) + 2).toNatClampNeg)
  | k + 1 => (sp_L_files_G M d a b k) ||| (if (sp_L_sign M (nI k) (nI a) (nI b)) ≤ 0 then (0 : Int32) else (1 <<< ((nI k) &&& 31)))
def sp_L_files_j340s0 (M : Nat → Nat → Int32) (j : Nat) : Int32 := if (M 4 (((8 * (nI j)) + 7).toNatClampNeg)) = 1 then 1 else 0
def sp_L_files_j378s0 (M : Nat → Nat → Int32) (j : Nat) (t : Nat) : Int32 := if (sp_L_files_j340s0 M j) = 0 then (if (((M 4 (((8 * (nI j)) + 2).toNatClampNeg)) >>> ((nI t) &&& 31)) &&& 1) = 1 then (if (((M 4 (((8 * (nI j)) + 3).toNatClampNeg)) >>> ((nI t) &&& 31)) &&& 1) = 0 then 1 else 0) else 0) else 0
def sp_L_files_j466s0 (M : Nat → Nat → Int32) (j : Nat) (sd : Nat) (t : Nat) : Int32 := if (0 : Int32) ≤ ((upd (M 4) (((8 * (nI j)) + 3).toNatClampNeg) ((M 4 (((8 * (nI j)) + 3).toNatClampNeg)) ||| (1 <<< ((nI t) &&& 31)))) (((8 * (nI j)) + 4).toNatClampNeg)) then ((upd (M 4) (((8 * (nI j)) + 3).toNatClampNeg) ((M 4 (((8 * (nI j)) + 3).toNatClampNeg)) ||| (1 <<< ((nI t) &&& 31)))) (((8 * (nI j)) + 4).toNatClampNeg)) else ((upd (M 4) (((8 * (nI j)) + 3).toNatClampNeg) ((M 4 (((8 * (nI j)) + 3).toNatClampNeg)) ||| (1 <<< ((nI t) &&& 31)))) (((8 * (nI j)) + (nI sd)).toNatClampNeg))
