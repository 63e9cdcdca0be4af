def sp_L_tenders_j9s0 (M : Nat → Nat → Int32) (p1 : Int32) : Int32 := if (sp_L_low (p1 >>> (9 &&& 31)) 3) ≤ 0 then (M 0 0) else (if (M 0 0) ≤ 2 then (M 0 0) else 3)
def sp_L_tenders_j39s0 (M : Nat → Nat → Int32) (p1 : Int32) (r : Nat) : Int32 := if (sp_L_low (p1 >>> (9 &&& 31)) 3) ≤ 0 then (nI r) else (((M 0 0) - 1) - (nI r))
def sp_L_tenders_j73s0 (M : Nat → Nat → Int32) (k : Nat) : Int32 := if (M 1 ((4 * (nI k)).toNatClampNeg)) = 0 then 1 else 0
def sp_L_tenders_j508s0 (M : Nat → Nat → Int32) (k : Nat) : Int32 := if (M 1 ((4 * (nI k)).toNatClampNeg)) = 1 then (if 0 ≤ (M 1 (((4 * (nI k)) + 2).toNatClampNeg)) then 0 else 1) else 0
def sp_L_tenders_j566s0 (p1 : Int32) : Int32 := if (sp_L_low (p1 >>> (12 &&& 31)) 6) = 0 then (9 + 1) else 9
def sp_L_tenders_j566s0_1 (M : Nat → Nat → Int32) (p1 : Int32) (k : Nat) : Int32 := if (sp_L_low (p1 >>> (12 &&& 31)) 6) = 0 then ((M 2 (((4 * (nI k)) + (M 1 (((4 * (nI k)) + 1).toNatClampNeg))).toNatClampNeg)) + 1) else (M 2 (((4 * (nI k)) + (M 1 (((4 * (nI k)) + 1).toNatClampNeg))).toNatClampNeg))
def sp_L_tenders_A (M : Nat → Nat → Int32) (k : Nat) : Nat → Int32 → Int32
  | 0, best => best
  | j + 1, best => sp_L_tenders_A M k j (if sp_L_in M (nI k) (nI j) = true then (if best < 0 then (nI j) else (if (M 2 (((4 * (nI k)) + best).toNatClampNeg)) < (M 2 (((4 * (nI k)) + (nI j)).toNatClampNeg)) then best else (nI j))) else best)
def sp_L_tenders_j439s0 (M : Nat → Nat → Int32) (k : Nat) : Int32 := if 0 ≤ (sp_L_tenders_A M k 4 (-1)) then 1 else 2
def sp_L_tenders_j276s0 (M : Nat → Nat → Int32) (k : Nat) (b : Nat) : Int32 := if (sp_L_tenders_j73s0 M k) = 0 then (-3) else (if sp_L_in M (nI k) (nI b) = true then (M 2 (((4 * (nI k)) + (nI b)).toNatClampNeg)) else (-3))
def sp_L_tenders_j318s0 (M : Nat → Nat → Int32) (k : Nat) (b : Nat) : Int32 := if (sp_L_tenders_j276s0 M k b) ≤ 0 then 0 else (1 <<< ((nI b) &&& 31))
def sp_L_tenders_j96s0 (p1 : Int32) : Int32 := if (sp_L_low (p1 >>> (12 &&& 31)) 4) = 0 then ((1 : Int32) + (sp_L_low (p1 >>> (6 &&& 31)) 100000)) else ((1000 : Int32) + (sp_L_low (p1 >>> (6 &&& 31)) 80))
def sp_L_tenders_j130s0 (M : Nat → Nat → Int32) (k : Nat) (b : Nat) : Int32 := if (sp_L_tenders_j73s0 M k) = 0 then 0 else (if (M 2 (((4 * (nI k)) + (nI b)).toNatClampNeg)) = 0 then 1 else 0)
def sp_L_tenders_j216s0 (M : Nat → Nat → Int32) (k : Nat) (b : Nat) (v96_0 : Int32) (kk : Nat) : Int32 := if (nI kk) = (nI b) then 0 else (if sp_L_in (um M 2 (upd (M 2) (((4 * (nI k)) + (nI b)).toNatClampNeg) v96_0)) (nI k) (nI kk) = true then 1 else 0)
def sp_L_tenders_L199 (M : Nat → Nat → Int32) (k : Nat) (b : Nat) (v96_0 : Int32) : Nat → Int32
  | 0 => 1
  | kk + 1 => (sp_L_tenders_L199 M k b v96_0 kk) + (sp_L_tenders_j216s0 M k b v96_0 kk)
