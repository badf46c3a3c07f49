def m_X6_held (x1 : Int32) (x2 : Int32) (x3 : Int32) (ι : iS) : Option (Int32 × iS) := some ((if x2 < (if x1 < x3 then x1 else x3) then (if x1 < x3 then x1 else x3) else x2), ι)
def l_X6_commonDivisor_9 : Nat → Int64 → Int64 → Int64 → Int64 → Int32 → iS → Option (Int64 × iS)
  | 0, _, _, _, _, _, _ => none
  | n + 1, y0, y2, y4, y6, y8, ι => if (200 : Int32) ≤ y8 then some (y4, ι) else if (lg_cmp y6 (0 : Int64)) = 0 then some (y4, ι) else if ¬ y6 = 0 then l_X6_commonDivisor_9 n y0 y2 y6 (y4 - y4 / y6 * y6) (y8 + 1) ι else none
def m_X6_commonDivisor (x1 : Int64) (x2 : Int64) (ι : iS) : Option (Int64 × iS) := l_X6_commonDivisor_9 aF x1 x2 x1 x2 (0 : Int32) ι
def m_X6_partOfFraction (x1 : Int64) (x2 : Int64) (x3 : Int32) (ι : iS) : Option (Int64 × iS) := if (lg_cmp x1 (0 : Int64)) ≤ 0 then if x3 = 0 then some ((0 : Int64), ι) else some ((1 : Int64), ι) else if 0 < (lg_cmp x2 (0 : Int64)) then Option.bind (m_X6_commonDivisor x1 x2 ι) fun r25 => if x3 = 0 then if 0 < (lg_cmp r25.1 (0 : Int64)) then if ¬ r25.1 = 0 then some ((x1 / r25.1), r25.2) else none else some (x1, r25.2) else if 0 < (lg_cmp r25.1 (0 : Int64)) then if ¬ r25.1 = 0 then some ((x2 / r25.1), r25.2) else none else some (x2, r25.2) else if x3 = 0 then some ((0 : Int64), ι) else some ((1 : Int64), ι)
def m_X5_casesBelow (o : Nat) (x1 : Int32) (x2 : Int32) (ι : iS) : Option (Int32 × iS) := if aIn x1 8 = true then Option.bind (m_X6_held ((x2 - (gI ι (o + 1) x1.toNatClampNeg)) + (gI ι o 3)) (0 : Int32) (gI ι o 4) ι) fun r18 => some (r18.1, r18.2) else none
def l_X5_power_5 (o : Nat) : Nat → Int32 → Int64 → Int32 → iS → Option (Int64 × iS)
  | 0, _, _, _, _ => none
  | n + 1, y1, y2, y4, ι => if y1 ≤ y4 then some (y2, ι) else l_X5_power_5 o n y1 (y2 * ((gI ι o 4)).toInt64) (y4 + 1) ι
def m_X5_power (o : Nat) (x1 : Int32) (ι : iS) : Option (Int64 × iS) := l_X5_power_5 o aF x1 (1 : Int64) (0 : Int32) ι
def l_X5_casesAllBelow_5 (o : Nat) : Nat → Int32 → Int64 → Int32 → iS → Option (Int64 × iS)
  | 0, _, _, _, _ => none
  | n + 1, y1, y2, y4, ι => if y1 ≤ y4 then some (y2, ι) else Option.bind (m_X5_casesBelow o y4 (gI ι o 0) ι) fun r19 => l_X5_casesAllBelow_5 o n y1 (y2 * (r19.1).toInt64) (y4 + 1) r19.2
def m_X5_casesAllBelow (o : Nat) (x1 : Int32) (ι : iS) : Option (Int64 × iS) := l_X5_casesAllBelow_5 o aF x1 (1 : Int64) (0 : Int32) ι
def l_X5_casesGreatest_5 (o : Nat) : Nat → Int32 → Int32 → Int64 → Int32 → iS → Option (Int64 × iS)
  | 0, _, _, _, _, _ => none
  | n + 1, y1, y2, y3, y5, ι => if (gI ι o 2) ≤ y5 then some (y3, ι) else if y5 = y1 then l_X5_casesGreatest_5 o n y1 y2 y3 (y5 + 1) ι else if y1 ≤ y5 then Option.bind (m_X5_casesBelow o y5 (y2 + (1 : Int32)) ι) fun r37 => l_X5_casesGreatest_5 o n y1 y2 (y3 * (r37.1).toInt64) (y5 + 1) r37.2 else Option.bind (m_X5_casesBelow o y5 y2 ι) fun r37 => l_X5_casesGreatest_5 o n y1 y2 (y3 * (r37.1).toInt64) (y5 + 1) r37.2
def m_X5_casesGreatest (o : Nat) (x1 : Int32) (x2 : Int32) (ι : iS) : Option (Int64 × iS) := l_X5_casesGreatest_5 o aF x1 x2 (1 : Int64) (0 : Int32) ι
def l_X5_casesAtOnce_9 (o : Nat) : Nat → Int32 → Int64 → Int32 → iS → Option (Int64 × iS)
  | 0, _, _, _, _ => none
  | n + 1, y1, y2, y4, ι => if (gI ι o 3) < y4 then some (y2, ι) else if aIn y1 8 = true then if ((gI ι (o + 1) y1.toNatClampNeg) + y4) < (gI ι o 0) then l_X5_casesAtOnce_9 o n y1 y2 (y4 + 1) ι else Option.bind (m_X5_casesGreatest o y1 ((gI ι (o + 1) y1.toNatClampNeg) + y4) ι) fun r43 => l_X5_casesAtOnce_9 o n y1 (y2 + r43.1) (y4 + 1) r43.2 else none
def m_X5_casesAtOnce (o : Nat) (x1 : Int32) (ι : iS) : Option (Int64 × iS) := l_X5_casesAtOnce_9 o aF x1 (0 : Int64) (-(gI ι o 3)) ι
def m_X5_casesOneByOne (o : Nat) (x1 : Int32) (ι : iS) : Option (Int64 × iS) := Option.bind (m_X5_casesBelow o x1 (gI ι o 0) ι) fun r10 => Option.bind (m_X5_casesAllBelow o x1 r10.2) fun r18 => Option.bind (m_X5_power o (((gI r18.2 o 2) - x1) - (1 : Int32)) r18.2) fun r32 => some (((r18.1 * (((gI ι o 4) - r10.1)).toInt64) * r32.1), r32.2)
def m_X5_casesOf (o : Nat) (x1 : Int32) (x2 : Int32) (ι : iS) : Option (Int64 × iS) := if x2 < 0 then some ((0 : Int64), ι) else if x2 < (gI ι o 2) then if x1 = 0 then Option.bind (m_X5_casesOneByOne o x2 ι) fun r20 => some (r20.1, r20.2) else Option.bind (m_X5_casesAtOnce o x2 ι) fun r28 => some (r28.1, r28.2) else some ((0 : Int64), ι)
def m_X5_casesOfNobody (o : Nat) (ι : iS) : Option (Int64 × iS) := Option.bind (m_X5_casesAllBelow o (gI ι o 2) ι) fun r5 => some (r5.1, r5.2)
def m_X5_allCases (o : Nat) (ι : iS) : Option (Int64 × iS) := Option.bind (m_X5_power o (gI ι o 2) ι) fun r5 => some (r5.1, r5.2)
def l_X5_look_43 (o : Nat) (x1 : Nat) : Nat → Int32 → Int32 → Int32 → iS → Option (iS)
  | 0, _, _, _, _ => none
  | n + 1, y2, y3, y4, ι => if (gI ι o 2) ≤ y4 then some ι else if aIn y4 8 = true then if (gI ι (x1 + 5) y4.toNatClampNeg) = 0 then if y3 = 0 then Option.bind (m_X2_matchOf x1 (gI ι (x1 + 5) y4.toNatClampNeg) y2 ι) fun r92 => if aIn y4 8 = true then l_X5_look_43 o x1 n y2 y3 (y4 + 1) (pI r92.2 (o + 1) y4.toNatClampNeg (r92.1 + (gI ι (x1 + 4) 2))) else none else Option.bind (m_X2_matchOf x1 (gI ι (x1 + 5) y4.toNatClampNeg) y2 ι) fun r92 => if aIn y4 8 = true then l_X5_look_43 o x1 n y2 y3 (y4 + 1) (pI r92.2 (o + 1) y4.toNatClampNeg (r92.1 + (0 : Int32))) else none else Option.bind (m_X2_matchOf x1 (gI ι (x1 + 5) y4.toNatClampNeg) y2 ι) fun r92 => if aIn y4 8 = true then l_X5_look_43 o x1 n y2 y3 (y4 + 1) (pI r92.2 (o + 1) y4.toNatClampNeg (r92.1 + (0 : Int32))) else none else none
def m_X5_look (o : Nat) (x1 : Nat) (x2 : Int32) (x3 : Int32) (ι : iS) : Option (iS) := l_X5_look_43 o x1 aF x2 x3 (0 : Int32) (pI (pI (pI (pI ι o 2 (gI ι x1 2)) o 3 (gI (pI ι o 2 (gI ι x1 2)) (x1 + 4) 0)) o 4 (((2 : Int32) * (gI (pI (pI ι o 2 (gI ι x1 2)) o 3 (gI (pI ι o 2 (gI ι x1 2)) (x1 + 4) 0)) o 3)) + (1 : Int32))) o 0 (gI (pI (pI (pI ι o 2 (gI ι x1 2)) o 3 (gI (pI ι o 2 (gI ι x1 2)) (x1 + 4) 0)) o 4 (((2 : Int32) * (gI (pI (pI ι o 2 (gI ι x1 2)) o 3 (gI (pI ι o 2 (gI ι x1 2)) (x1 + 4) 0)) o 3)) + (1 : Int32))) (x1 + 4) 1))
def m_X0_weigh (x1 : Int32) (x2 : Int64) (x3 : Int64) (ι : iS) : Option (iS) := if (gI ι 35 3) = 0 then some (pJ (pJ (pI (pI ι 35 3 (1 : Int32)) 35 0 x1) 35 1 x2) 35 2 (if x3 < (1 : Int64) then (1 : Int64) else x3)) else if 0 < (lg_cmp ((x2 * x2) * (gJ ι 35 2)) (((gJ ι 35 1) * (gJ ι 35 1)) * (if x3 < (1 : Int64) then (1 : Int64) else x3))) then some (pJ (pJ (pI (pI ι 35 3 (1 : Int32)) 35 0 x1) 35 1 x2) 35 2 (if x3 < (1 : Int64) then (1 : Int64) else x3)) else if (lg_cmp ((x2 * x2) * (gJ ι 35 2)) (((gJ ι 35 1) * (gJ ι 35 1)) * (if x3 < (1 : Int64) then (1 : Int64) else x3))) = 0 then if (gI ι 35 0) ≤ x1 then some ι else some (pJ (pJ (pI (pI ι 35 3 (1 : Int32)) 35 0 x1) 35 1 x2) 35 2 (if x3 < (1 : Int64) then (1 : Int64) else x3)) else some ι
def m_X1_clear (ι : iS) : Option (iS) := some (pI ι 21 2 (0 : Int32))
def m_X1_add (x1 : Int32) (x2 : Int32) (ι : iS) : Option (iS) := if (500 : Int32) ≤ (gI ι 21 2) then some ι else if aIn (gI ι 21 2) 500 = true then some (pI (pI ι 22 (gI ι 21 2).toNatClampNeg ((x1 <<< ((7 : Int32) &&& 31)) ||| x2)) 21 2 ((gI (pI ι 22 (gI ι 21 2).toNatClampNeg ((x1 <<< ((7 : Int32) &&& 31)) ||| x2)) 21 2) + (1 : Int32))) else none
def m_X1_joined (x1 : Int32) (x2 : Int64) (x3 : Int64) (ι : iS) : Option (Int64 × iS) := if x1 = (5 : Int32) then some ((if (if (x2 + x3) < (1000000 : Int64) then (x2 + x3) else (1000000 : Int64)) < (-1000000 : Int64) then (-1000000 : Int64) else (if (x2 + x3) < (1000000 : Int64) then (x2 + x3) else (1000000 : Int64))), ι) else if x1 = (6 : Int32) then some ((if (if (x2 - x3) < (1000000 : Int64) then (x2 - x3) else (1000000 : Int64)) < (-1000000 : Int64) then (-1000000 : Int64) else (if (x2 - x3) < (1000000 : Int64) then (x2 - x3) else (1000000 : Int64))), ι) else some ((if (if (x2 * x3) < (1000000 : Int64) then (x2 * x3) else (1000000 : Int64)) < (-1000000 : Int64) then (-1000000 : Int64) else (if (x2 * x3) < (1000000 : Int64) then (x2 * x3) else (1000000 : Int64))), ι)
def m_X1_ofTrait (x1 : Int32) (x2 : Int32) (x3 : Nat) (x4 : Int32) (x5 : Int32) (ι : iS) : Option (Int64 × iS) := if x1 = (1 : Int32) then Option.bind (m_X2_valueOf x3 x4 x2 ι) fun r8 => some ((r8.1).toInt64, r8.2) else if x1 = (2 : Int32) then Option.bind (m_X2_differenceOf x3 x4 x2 x5 ι) fun r23 => some ((r23.1).toInt64, r23.2) else if aIn x2 5 = true then some (((gI ι (x3 + 3) x2.toNatClampNeg)).toInt64, ι) else none
def l_X1_plainRate_5 (x1 : Nat) : Nat → Int32 → Int32 → Int32 → Int32 → iS → Option (Int32 × iS)
  | 0, _, _, _, _, _ => none
  | n + 1, y1, y2, y3, y4, ι => if (gI ι x1 0) ≤ y4 then some (y3, ι) else if aIn y4 5 = true then Option.bind (m_X2_differenceOf x1 y1 y4 y2 ι) fun r29 => l_X1_plainRate_5 x1 n y1 y2 (y3 + ((gI ι (x1 + 3) y4.toNatClampNeg) * ((9 : Int32) - r29.1))) (y4 + 1) r29.2 else none
def m_X1_plainRate (x1 : Nat) (x2 : Int32) (x3 : Int32) (ι : iS) : Option (Int32 × iS) := l_X1_plainRate_5 x1 aF x2 x3 (0 : Int32) (0 : Int32) ι
def l_X1_run_6 (x1 : Nat) : Nat → Int32 → Int32 → Int32 → Int32 → iS → Option (Int64 × iS)
  | 0, _, _, _, _, _ => none
  | n + 1, y2, y3, y4, y5, ι => if (gI ι 21 2) ≤ y5 then some ((gJ ι 23 0), ι) else if aIn y5 500 = true then if aIn y5 500 = true then if ((gI ι 22 y5.toNatClampNeg) >>> ((7 : Int32) &&& 31)) = 0 then if (16 : Int32) ≤ y4 then if (4 : Int32) ≤ ((gI ι 22 y5.toNatClampNeg) >>> ((7 : Int32) &&& 31)) then if ((gI ι 22 y5.toNatClampNeg) >>> ((7 : Int32) &&& 31)) = (4 : Int32) then if y4 < (1 : Int32) then if ((gI ι 22 y5.toNatClampNeg) >>> ((7 : Int32) &&& 31)) ≤ (4 : Int32) then l_X1_run_6 x1 n y2 y3 y4 (y5 + 1) ι else if y4 < (2 : Int32) then l_X1_run_6 x1 n y2 y3 y4 (y5 + 1) ι else if aIn ((y4 + (-1)) - (1 : Int32)) 16 = true then if aIn (y4 + (-1)) 16 = true then Option.bind (m_X1_joined ((gI ι 22 y5.toNatClampNeg) >>> ((7 : Int32) &&& 31)) (gJ ι 23 ((y4 + (-1)) - (1 : Int32)).toNatClampNeg) (gJ ι 23 (y4 + (-1)).toNatClampNeg) ι) fun r184 => if aIn ((y4 + (-1)) - (1 : Int32)) 16 = true then l_X1_run_6 x1 n y2 y3 (y4 + (-1)) (y5 + 1) (pJ r184.2 23 ((y4 + (-1)) - (1 : Int32)).toNatClampNeg r184.1) else none else none else none else if aIn (y4 - (1 : Int32)) 16 = true then if aIn (y4 - (1 : Int32)) 16 = true then l_X1_run_6 x1 n y2 y3 y4 (y5 + 1) (pJ ι 23 (y4 - (1 : Int32)).toNatClampNeg (-(gJ ι 23 (y4 - (1 : Int32)).toNatClampNeg))) else none else none else if ((gI ι 22 y5.toNatClampNeg) >>> ((7 : Int32) &&& 31)) ≤ (4 : Int32) then l_X1_run_6 x1 n y2 y3 y4 (y5 + 1) ι else if y4 < (2 : Int32) then l_X1_run_6 x1 n y2 y3 y4 (y5 + 1) ι else if aIn ((y4 + (-1)) - (1 : Int32)) 16 = true then if aIn (y4 + (-1)) 16 = true then Option.bind (m_X1_joined ((gI ι 22 y5.toNatClampNeg) >>> ((7 : Int32) &&& 31)) (gJ ι 23 ((y4 + (-1)) - (1 : Int32)).toNatClampNeg) (gJ ι 23 (y4 + (-1)).toNatClampNeg) ι) fun r184 => if aIn ((y4 + (-1)) - (1 : Int32)) 16 = true then l_X1_run_6 x1 n y2 y3 (y4 + (-1)) (y5 + 1) (pJ r184.2 23 ((y4 + (-1)) - (1 : Int32)).toNatClampNeg r184.1) else none else none else none else if (16 : Int32) ≤ y4 then if ((gI ι 22 y5.toNatClampNeg) >>> ((7 : Int32) &&& 31)) = (4 : Int32) then if y4 < (1 : Int32) then if ((gI ι 22 y5.toNatClampNeg) >>> ((7 : Int32) &&& 31)) ≤ (4 : Int32) then l_X1_run_6 x1 n y2 y3 y4 (y5 + 1) ι else if y4 < (2 : Int32) then l_X1_run_6 x1 n y2 y3 y4 (y5 + 1) ι else if aIn ((y4 + (-1)) - (1 : Int32)) 16 = true then if aIn (y4 + (-1)) 16 = true then Option.bind (m_X1_joined ((gI ι 22 y5.toNatClampNeg) >>> ((7 : Int32) &&& 31)) (gJ ι 23 ((y4 + (-1)) - (1 : Int32)).toNatClampNeg) (gJ ι 23 (y4 + (-1)).toNatClampNeg) ι) fun r184 => if aIn ((y4 + (-1)) - (1 : Int32)) 16 = true then l_X1_run_6 x1 n y2 y3 (y4 + (-1)) (y5 + 1) (pJ r184.2 23 ((y4 + (-1)) - (1 : Int32)).toNatClampNeg r184.1) else none else none else none else if aIn (y4 - (1 : Int32)) 16 = true then if aIn (y4 - (1 : Int32)) 16 = true then l_X1_run_6 x1 n y2 y3 y4 (y5 + 1) (pJ ι 23 (y4 - (1 : Int32)).toNatClampNeg (-(gJ ι 23 (y4 - (1 : Int32)).toNatClampNeg))) else none else none else if ((gI ι 22 y5.toNatClampNeg) >>> ((7 : Int32) &&& 31)) ≤ (4 : Int32) then l_X1_run_6 x1 n y2 y3 y4 (y5 + 1) ι else if y4 < (2 : Int32) then l_X1_run_6 x1 n y2 y3 y4 (y5 + 1) ι else if aIn ((y4 + (-1)) - (1 : Int32)) 16 = true then if aIn (y4 + (-1)) 16 = true then Option.bind (m_X1_joined ((gI ι 22 y5.toNatClampNeg) >>> ((7 : Int32) &&& 31)) (gJ ι 23 ((y4 + (-1)) - (1 : Int32)).toNatClampNeg) (gJ ι 23 (y4 + (-1)).toNatClampNeg) ι) fun r184 => if aIn ((y4 + (-1)) - (1 : Int32)) 16 = true then l_X1_run_6 x1 n y2 y3 (y4 + (-1)) (y5 + 1) (pJ r184.2 23 ((y4 + (-1)) - (1 : Int32)).toNatClampNeg r184.1) else none else none else none else if (5 : Int32) ≤ ((gI ι 22 y5.toNatClampNeg) &&& (127 : Int32)) then if ((gI ι 22 y5.toNatClampNeg) >>> ((7 : Int32) &&& 31)) = (4 : Int32) then if y4 < (1 : Int32) then if ((gI ι 22 y5.toNatClampNeg) >>> ((7 : Int32) &&& 31)) ≤ (4 : Int32) then l_X1_run_6 x1 n y2 y3 y4 (y5 + 1) ι else if y4 < (2 : Int32) then l_X1_run_6 x1 n y2 y3 y4 (y5 + 1) ι else if aIn ((y4 + (-1)) - (1 : Int32)) 16 = true then if aIn (y4 + (-1)) 16 = true then Option.bind (m_X1_joined ((gI ι 22 y5.toNatClampNeg) >>> ((7 : Int32) &&& 31)) (gJ ι 23 ((y4 + (-1)) - (1 : Int32)).toNatClampNeg) (gJ ι 23 (y4 + (-1)).toNatClampNeg) ι) fun r184 => if aIn ((y4 + (-1)) - (1 : Int32)) 16 = true then l_X1_run_6 x1 n y2 y3 (y4 + (-1)) (y5 + 1) (pJ r184.2 23 ((y4 + (-1)) - (1 : Int32)).toNatClampNeg r184.1) else none else none else none else if aIn (y4 - (1 : Int32)) 16 = true then if aIn (y4 - (1 : Int32)) 16 = true then l_X1_run_6 x1 n y2 y3 y4 (y5 + 1) (pJ ι 23 (y4 - (1 : Int32)).toNatClampNeg (-(gJ ι 23 (y4 - (1 : Int32)).toNatClampNeg))) else none else none else if ((gI ι 22 y5.toNatClampNeg) >>> ((7 : Int32) &&& 31)) ≤ (4 : Int32) then l_X1_run_6 x1 n y2 y3 y4 (y5 + 1) ι else if y4 < (2 : Int32) then l_X1_run_6 x1 n y2 y3 y4 (y5 + 1) ι else if aIn ((y4 + (-1)) - (1 : Int32)) 16 = true then if aIn (y4 + (-1)) 16 = true then Option.bind (m_X1_joined ((gI ι 22 y5.toNatClampNeg) >>> ((7 : Int32) &&& 31)) (gJ ι 23 ((y4 + (-1)) - (1 : Int32)).toNatClampNeg) (gJ ι 23 (y4 + (-1)).toNatClampNeg) ι) fun r184 => if aIn ((y4 + (-1)) - (1 : Int32)) 16 = true then l_X1_run_6 x1 n y2 y3 (y4 + (-1)) (y5 + 1) (pJ r184.2 23 ((y4 + (-1)) - (1 : Int32)).toNatClampNeg r184.1) else none else none else none else Option.bind (m_X1_ofTrait ((gI ι 22 y5.toNatClampNeg) >>> ((7 : Int32) &&& 31)) ((gI ι 22 y5.toNatClampNeg) &&& (127 : Int32)) x1 y2 y3 ι) fun r99 => if aIn y4 16 = true then l_X1_run_6 x1 n y2 y3 (y4 + 1) (y5 + 1) (pJ r99.2 23 y4.toNatClampNeg r99.1) else none else if aIn y4 16 = true then l_X1_run_6 x1 n y2 y3 (y4 + 1) (y5 + 1) (pJ ι 23 y4.toNatClampNeg (((gI ι 22 y5.toNatClampNeg) &&& (127 : Int32))).toInt64) else none else if (4 : Int32) ≤ ((gI ι 22 y5.toNatClampNeg) >>> ((7 : Int32) &&& 31)) then if ((gI ι 22 y5.toNatClampNeg) >>> ((7 : Int32) &&& 31)) = (4 : Int32) then if y4 < (1 : Int32) then if ((gI ι 22 y5.toNatClampNeg) >>> ((7 : Int32) &&& 31)) ≤ (4 : Int32) then l_X1_run_6 x1 n y2 y3 y4 (y5 + 1) ι else if y4 < (2 : Int32) then l_X1_run_6 x1 n y2 y3 y4 (y5 + 1) ι else if aIn ((y4 + (-1)) - (1 : Int32)) 16 = true then if aIn (y4 + (-1)) 16 = true then Option.bind (m_X1_joined ((gI ι 22 y5.toNatClampNeg) >>> ((7 : Int32) &&& 31)) (gJ ι 23 ((y4 + (-1)) - (1 : Int32)).toNatClampNeg) (gJ ι 23 (y4 + (-1)).toNatClampNeg) ι) fun r184 => if aIn ((y4 + (-1)) - (1 : Int32)) 16 = true then l_X1_run_6 x1 n y2 y3 (y4 + (-1)) (y5 + 1) (pJ r184.2 23 ((y4 + (-1)) - (1 : Int32)).toNatClampNeg r184.1) else none else none else none else if aIn (y4 - (1 : Int32)) 16 = true then if aIn (y4 - (1 : Int32)) 16 = true then l_X1_run_6 x1 n y2 y3 y4 (y5 + 1) (pJ ι 23 (y4 - (1 : Int32)).toNatClampNeg (-(gJ ι 23 (y4 - (1 : Int32)).toNatClampNeg))) else none else none else if ((gI ι 22 y5.toNatClampNeg) >>> ((7 : Int32) &&& 31)) ≤ (4 : Int32) then l_X1_run_6 x1 n y2 y3 y4 (y5 + 1) ι else if y4 < (2 : Int32) then l_X1_run_6 x1 n y2 y3 y4 (y5 + 1) ι else if aIn ((y4 + (-1)) - (1 : Int32)) 16 = true then if aIn (y4 + (-1)) 16 = true then Option.bind (m_X1_joined ((gI ι 22 y5.toNatClampNeg) >>> ((7 : Int32) &&& 31)) (gJ ι 23 ((y4 + (-1)) - (1 : Int32)).toNatClampNeg) (gJ ι 23 (y4 + (-1)).toNatClampNeg) ι) fun r184 => if aIn ((y4 + (-1)) - (1 : Int32)) 16 = true then l_X1_run_6 x1 n y2 y3 (y4 + (-1)) (y5 + 1) (pJ r184.2 23 ((y4 + (-1)) - (1 : Int32)).toNatClampNeg r184.1) else none else none else none else if (16 : Int32) ≤ y4 then if ((gI ι 22 y5.toNatClampNeg) >>> ((7 : Int32) &&& 31)) = (4 : Int32) then if y4 < (1 : Int32) then if ((gI ι 22 y5.toNatClampNeg) >>> ((7 : Int32) &&& 31)) ≤ (4 : Int32) then l_X1_run_6 x1 n y2 y3 y4 (y5 + 1) ι else if y4 < (2 : Int32) then l_X1_run_6 x1 n y2 y3 y4 (y5 + 1) ι else if aIn ((y4 + (-1)) - (1 : Int32)) 16 = true then if aIn (y4 + (-1)) 16 = true then Option.bind (m_X1_joined ((gI ι 22 y5.toNatClampNeg) >>> ((7 : Int32) &&& 31)) (gJ ι 23 ((y4 + (-1)) - (1 : Int32)).toNatClampNeg) (gJ ι 23 (y4 + (-1)).toNatClampNeg) ι) fun r184 => if aIn ((y4 + (-1)) - (1 : Int32)) 16 = true then l_X1_run_6 x1 n y2 y3 (y4 + (-1)) (y5 + 1) (pJ r184.2 23 ((y4 + (-1)) - (1 : Int32)).toNatClampNeg r184.1) else none else none else none else if aIn (y4 - (1 : Int32)) 16 = true then if aIn (y4 - (1 : Int32)) 16 = true then l_X1_run_6 x1 n y2 y3 y4 (y5 + 1) (pJ ι 23 (y4 - (1 : Int32)).toNatClampNeg (-(gJ ι 23 (y4 - (1 : Int32)).toNatClampNeg))) else none else none else if ((gI ι 22 y5.toNatClampNeg) >>> ((7 : Int32) &&& 31)) ≤ (4 : Int32) then l_X1_run_6 x1 n y2 y3 y4 (y5 + 1) ι else if y4 < (2 : Int32) then l_X1_run_6 x1 n y2 y3 y4 (y5 + 1) ι else if aIn ((y4 + (-1)) - (1 : Int32)) 16 = true then if aIn (y4 + (-1)) 16 = true then Option.bind (m_X1_joined ((gI ι 22 y5.toNatClampNeg) >>> ((7 : Int32) &&& 31)) (gJ ι 23 ((y4 + (-1)) - (1 : Int32)).toNatClampNeg) (gJ ι 23 (y4 + (-1)).toNatClampNeg) ι) fun r184 => if aIn ((y4 + (-1)) - (1 : Int32)) 16 = true then l_X1_run_6 x1 n y2 y3 (y4 + (-1)) (y5 + 1) (pJ r184.2 23 ((y4 + (-1)) - (1 : Int32)).toNatClampNeg r184.1) else none else none else none else if (5 : Int32) ≤ ((gI ι 22 y5.toNatClampNeg) &&& (127 : Int32)) then if ((gI ι 22 y5.toNatClampNeg) >>> ((7 : Int32) &&& 31)) = (4 : Int32) then if y4 < (1 : Int32) then if ((gI ι 22 y5.toNatClampNeg) >>> ((7 : Int32) &&& 31)) ≤ (4 : Int32) then l_X1_run_6 x1 n y2 y3 y4 (y5 + 1) ι else if y4 < (2 : Int32) then l_X1_run_6 x1 n y2 y3 y4 (y5 + 1) ι else if aIn ((y4 + (-1)) - (1 : Int32)) 16 = true then if aIn (y4 + (-1)) 16 = true then Option.bind (m_X1_joined ((gI ι 22 y5.toNatClampNeg) >>> ((7 : Int32) &&& 31)) (gJ ι 23 ((y4 + (-1)) - (1 : Int32)).toNatClampNeg) (gJ ι 23 (y4 + (-1)).toNatClampNeg) ι) fun r184 => if aIn ((y4 + (-1)) - (1 : Int32)) 16 = true then l_X1_run_6 x1 n y2 y3 (y4 + (-1)) (y5 + 1) (pJ r184.2 23 ((y4 + (-1)) - (1 : Int32)).toNatClampNeg r184.1) else none else none else none else if aIn (y4 - (1 : Int32)) 16 = true then if aIn (y4 - (1 : Int32)) 16 = true then l_X1_run_6 x1 n y2 y3 y4 (y5 + 1) (pJ ι 23 (y4 - (1 : Int32)).toNatClampNeg (-(gJ ι 23 (y4 - (1 : Int32)).toNatClampNeg))) else none else none else if ((gI ι 22 y5.toNatClampNeg) >>> ((7 : Int32) &&& 31)) ≤ (4 : Int32) then l_X1_run_6 x1 n y2 y3 y4 (y5 + 1) ι else if y4 < (2 : Int32) then l_X1_run_6 x1 n y2 y3 y4 (y5 + 1) ι else if aIn ((y4 + (-1)) - (1 : Int32)) 16 = true then if aIn (y4 + (-1)) 16 = true then Option.bind (m_X1_joined ((gI ι 22 y5.toNatClampNeg) >>> ((7 : Int32) &&& 31)) (gJ ι 23 ((y4 + (-1)) - (1 : Int32)).toNatClampNeg) (gJ ι 23 (y4 + (-1)).toNatClampNeg) ι) fun r184 => if aIn ((y4 + (-1)) - (1 : Int32)) 16 = true then l_X1_run_6 x1 n y2 y3 (y4 + (-1)) (y5 + 1) (pJ r184.2 23 ((y4 + (-1)) - (1 : Int32)).toNatClampNeg r184.1) else none else none else none else Option.bind (m_X1_ofTrait ((gI ι 22 y5.toNatClampNeg) >>> ((7 : Int32) &&& 31)) ((gI ι 22 y5.toNatClampNeg) &&& (127 : Int32)) x1 y2 y3 ι) fun r99 => if aIn y4 16 = true then l_X1_run_6 x1 n y2 y3 (y4 + 1) (y5 + 1) (pJ r99.2 23 y4.toNatClampNeg r99.1) else none else none else none
def m_X1_run (x1 : Nat) (x2 : Int32) (x3 : Int32) (ι : iS) : Option (Int64 × iS) := l_X1_run_6 x1 aF x2 x3 (0 : Int32) (0 : Int32) ι
def m_X1_rateOne (x1 : Nat) (x2 : Int32) (x3 : Int32) (ι : iS) : Option (Int32 × iS) := if (gI ι 21 2) = 0 then Option.bind (m_X1_plainRate x1 x2 x3 ι) fun r10 => Option.bind (m_X6_held r10.1 (0 : Int32) (99 : Int32) r10.2) fun r31 => some (r31.1, r31.2) else Option.bind (m_X1_run x1 x2 x3 ι) fun r20 => Option.bind (m_X6_held (r20.1).toInt32 (0 : Int32) (99 : Int32) r20.2) fun r31 => some (r31.1, r31.2)
def l_X1_rate_2 (x1 : Nat) : Nat → Int32 → iS → Option (iS)
  | 0, _, _ => none
  | n + 1, y2, ι => if (gI ι x1 1) ≤ y2 then some ι else Option.bind (m_X1_rateOne x1 y2 (0 : Int32) ι) fun r19 => if aIn y2 16 = true then Option.bind (m_X1_rateOne x1 y2 (1 : Int32) (pI r19.2 (x1 + 7) y2.toNatClampNeg r19.1)) fun r32 => if aIn y2 16 = true then l_X1_rate_2 x1 n (y2 + 1) (pI r32.2 (x1 + 8) y2.toNatClampNeg r32.1) else none else none
def m_X1_rate (x1 : Nat) (ι : iS) : Option (iS) := l_X1_rate_2 x1 aF (0 : Int32) ι
def l_X6_putBytes_3 : Nat → Int32 → Int32 → iS → Option (iS)
  | 0, _, _, _ => none
  | n + 1, y1, y2, ι => if y2 < 0 then some ι else if (500 : Int32) ≤ (gI ι 0 1) then l_X6_putBytes_3 n y1 (y2 + (-8)) ι else if aIn (gI ι 0 1) 500 = true then l_X6_putBytes_3 n y1 (y2 + (-8)) (pI (pI ι 1 (gI ι 0 1).toNatClampNeg (vp_nar .byte ((y1 >>> (y2 &&& 31))).toInt8.toInt32)) 0 1 ((gI (pI ι 1 (gI ι 0 1).toNatClampNeg (vp_nar .byte ((y1 >>> (y2 &&& 31))).toInt8.toInt32)) 0 1) + (1 : Int32))) else none
def m_X6_putBytes (x1 : Int32) (ι : iS) : Option (iS) := l_X6_putBytes_3 aF x1 (24 : Int32) ι
def l_X6_keepPast_18 : Nat → Nat → Int32 → iS → Option (iS)
  | 0, _, _, _ => none
  | n + 1, y1, y2, ι => if (8 : Int32) ≤ y2 then if aIn (gI (pI (pP ι 29 7 (some y1)) 0 5 ((gI (pP ι 29 7 (some y1)) 0 5) - (1 : Int32))) 0 5) 8 = true then (gP (pI (pP ι 29 7 (some y1)) 0 5 ((gI (pP ι 29 7 (some y1)) 0 5) - (1 : Int32))) 29 (gI (pI (pP ι 29 7 (some y1)) 0 5 ((gI (pP ι 29 7 (some y1)) 0 5) - (1 : Int32))) 0 5).toNatClampNeg).bind fun q70 => if aLin q70 = true then Option.bind (m_X2_copyFrom q70 2 (pI (pP ι 29 7 (some y1)) 0 5 ((gI (pP ι 29 7 (some y1)) 0 5) - (1 : Int32)))) fun r75 => some (pI r75 0 5 ((gI r75 0 5) + (1 : Int32))) else none else none else if aIn y2 8 = true then (gP ι 29 y2.toNatClampNeg).bind fun q36 => if aLin q36 = true then if aIn (y2 - (1 : Int32)) 8 = true then l_X6_keepPast_18 n y1 (y2 + 1) (pP ι 29 (y2 - (1 : Int32)).toNatClampNeg (some q36)) else none else none else none
def m_X6_keepPast (ι : iS) : Option (iS) := if (gI ι 0 5) = (8 : Int32) then if aIn (0 : Int32) 8 = true then (gP ι 29 (0 : Int32).toNatClampNeg).bind fun q14 => if aLin q14 = true then l_X6_keepPast_18 aF q14 (1 : Int32) ι else none else none else if aIn (gI ι 0 5) 8 = true then (gP ι 29 (gI ι 0 5).toNatClampNeg).bind fun q70 => if aLin q70 = true then Option.bind (m_X2_copyFrom q70 2 ι) fun r75 => some (pI r75 0 5 ((gI r75 0 5) + (1 : Int32))) else none else none
def m_X6_feed (x1 : Int32) (x2 : Int32) (x3 : Int32) (x4 : Int32) (x5 : Int32) (ι : iS) : Option (Int32 × iS) := if ((gI ι 0 1) + (20 : Int32)) ≤ (500 : Int32) then Option.bind (m_X6_putBytes x1 ι) fun r17 => Option.bind (m_X6_putBytes x2 r17) fun r22 => Option.bind (m_X6_putBytes x3 r22) fun r27 => Option.bind (m_X6_putBytes x4 r27) fun r33 => Option.bind (m_X6_putBytes x5 r33) fun r39 => some ((gI r39 0 1), r39) else some ((-1 : Int32), ι)
def m_X6_fault (ι : iS) : Option (Int32 × iS) := some ((gI ι 0 6), ι)
def m_X6_undo (ι : iS) : Option (Int32 × iS) := if (gI ι 0 5) = 0 then some ((-1 : Int32), ι) else if aIn (gI (pI ι 0 5 ((gI ι 0 5) - (1 : Int32))) 0 5) 8 = true then (gP (pI ι 0 5 ((gI ι 0 5) - (1 : Int32))) 29 (gI (pI ι 0 5 ((gI ι 0 5) - (1 : Int32))) 0 5).toNatClampNeg).bind fun q31 => if aLin q31 = true then Option.bind (m_X2_copyFrom 2 q31 (pI ι 0 5 ((gI ι 0 5) - (1 : Int32)))) fun r32 => some ((gI r32 0 5), r32) else none else none
def l_X6_print_4 : Nat → Int64 → Int32 → iS → Option (Int64 × iS)
  | 0, _, _, _ => none
  | n + 1, y1, y3, ι => if (gI ι 2 2) ≤ y3 then some ((((31 : Int64) * y1) + ((gI ι 6 1)).toInt64), ι) else if aIn y3 8 = true then if aIn (gI ι 7 y3.toNatClampNeg) 16 = true then l_X6_print_4 n (((31 : Int64) * (((31 : Int64) * y1) + ((gI ι 7 y3.toNatClampNeg)).toInt64)) + ((gI ι 8 (gI ι 7 y3.toNatClampNeg).toNatClampNeg)).toInt64) (y3 + 1) ι else none else none
def m_X6_print (ι : iS) : Option (Int64 × iS) := l_X6_print_4 aF (0 : Int64) (0 : Int32) ι
def m_X6_status (x1 : Int32) (ι : iS) : Option (Int32 × iS) := if x1 < 0 then some ((-1 : Int32), ι) else if (3 : Int32) ≤ x1 then some ((-1 : Int32), ι) else if aIn x1 3 = true then some ((gI ι 30 x1.toNatClampNeg), ι) else none
def rm_X6_held : Room := { frames := 1, cells := 0, slots := 0, locals := 28 }
theorem k_X6_held : aCalS yX6_held cX6_held 3 (some .int) 3 := ⟨wS_yX6_held, wZ_X6, wC_yX6_held, by decide +kernel⟩
set_option maxHeartbeats 4000000 in
set_option maxRecDepth 100000 in
theorem c_X6_held (l : Launch) {x1 : Int32} {x2 : Int32} {x3 : Int32} {ι : iS} {res : Int32 × iS} (hM : m_X6_held x1 x2 x3 ι = some res) : aM l yX6_held cX6_held 3 (some .int) rm_X6_held (fun ad => [.int x1, .int x2, .int x3]) (aG ι) (some (.int res.1)) (aG res.2) := by
  refine aM.of (by decide) (fun _ => Nat.le_of_ble_eq_true rfl) ?_
  intro p e s m args below meth c D dA ad adV A ls C hw hl
  have C : aX p m c cX6_held 3 s args aTs RX6 meth (some .int) := C
  have hx := C.1.1
  have hb := C.1.2.1
  have hml := C.1.2.2.1
  have hown := C.1.2.2.2.1
  have hts := C.1.2.2.2.2
  have hl : lv_has ls 3 [(0, .int x1), (1, .int x2), (2, .int x3)] := hl
  unfold m_X6_held at hM
  refine lv_iload_n hx hb dX6_held_0 rfl (lv_at hl 1 rfl) ?_
  refine lv_iload_n hx hb dX6_held_1 rfl (lv_at hl 2 rfl) ?_
  refine lv_iload_n hx hb dX6_held_2 rfl (lv_at hl 0 rfl) ?_
  refine va_mmin hx hb (hml.trans hl.1.symm) hown (hts _ wM_X6_235) (hts _ wS_Lib_Math_min_name) (hts _ wZ_J9) (hts _ wC_Lib_Math_min_name) (Nat.le_of_ble_eq_true rfl) (Nat.le_of_ble_eq_true rfl) (Nat.zero_le _) (Nat.zero_le _) dX6_held_3 ?_
  refine va_mmax hx hb (hml.trans hl.1.symm) hown (hts _ wM_X6_240) (hts _ wS_Lib_Math_max_name) (hts _ wZ_J9) (hts _ wC_Lib_Math_max_name) (Nat.le_of_ble_eq_true rfl) (Nat.le_of_ble_eq_true rfl) (Nat.zero_le _) (Nat.zero_le _) dX6_held_6 ?_
  cases h_e hM
  exact a_iret C hw dX6_held_9
def rm_X6_commonDivisor : Room := { frames := 0, cells := 0, slots := 0, locals := 0 }
set_option maxHeartbeats 4000000 in
set_option maxRecDepth 100000 in
theorem tl_X6_commonDivisor_9 (l : Launch) {p : Program} {e : Env} {s : State} {m : MethodId} {args : Array Value} {below : List Frame} {meth : Method} {c : Code} {D : va_G} {dA : Nat → ClassId} {ad adV : Nat → Nat} {A : Nat → Prop} (C : aX p m c cX6_commonDivisor 11 s args aTs RX6 meth (some .long)) {res : Int64 × iS} : ∀ (n : Nat) (y0 : Int64) (y2 : Int64) (y4 : Int64) (y6 : Int64) (y8 : Int32) {ι : iS}, l_X6_commonDivisor_9 n y0 y2 y4 y6 y8 ι = some res → ∀ {H : Heap} {locs : List Loc} {ls : Array Slot}, aW D dA ad adV (aG ι) A s H locs → lv_has ls 11 [(0, .long y0), (2, .long y2), (4, .long y4), (6, .long y6), (8, .int y8)] → W p l e rm_X6_commonDivisor s m args below meth c H locs 0 0 (MQ below (aQ D dA ad (aG res.2) A (some (.long res.1))) args s 0 0 A) (F0 m 9 ls []) := by
  have hx := C.1.1
  have hb := C.1.2.1
  have hml := C.1.2.2.1
  have hown := C.1.2.2.2.1
  have hts := C.1.2.2.2.2
  intro n
  induction n with
  | zero => intro y0 y2 y4 y6 y8 ι hM; simp [l_X6_commonDivisor_9] at hM
  | succ n ih =>
    intro y0 y2 y4 y6 y8 ι hM H locs ls hw hl
    rw [l_X6_commonDivisor_9] at hM
    refine lv_iload hx hb dX6_commonDivisor_9 (lv_at hl 4 rfl) ?_
    refine lv_sipush (v := (200 : Int32)) hx hb dX6_commonDivisor_11 (by decide) ?_
    refine lv_icmp_ge (tgt := 45) hx hb dX6_commonDivisor_14 (by decide) (fun hc => ?_) (fun hc => ?_)
    · replace hM := h_t hc hM
      refine lv_lload hx hb dX6_commonDivisor_45 (lv_at hl 2 rfl) ?_
      cases h_e hM
      exact a_lret C hw dX6_commonDivisor_47
    · replace hM := h_f hc hM
      refine lv_lload hx hb dX6_commonDivisor_17 (lv_at hl 3 rfl) ?_
      refine lv_lconst (v := (0 : Int64)) hx hb dX6_commonDivisor_19 (by decide) ?_
      refine W.lcmp hx hb dX6_commonDivisor_20 ?_
      refine lv_if_eq (tgt := 45) hx hb dX6_commonDivisor_21 (by decide) (fun hc => ?_) (fun hc => ?_)
      · replace hM := h_t hc hM
        refine lv_lload hx hb dX6_commonDivisor_45 (lv_at hl 2 rfl) ?_
        cases h_e hM
        exact a_lret C hw dX6_commonDivisor_47
      · replace hM := h_f hc hM
        refine lv_lload hx hb dX6_commonDivisor_24 (lv_at hl 2 rfl) ?_
        refine lv_lload hx hb dX6_commonDivisor_26 (lv_at hl 3 rfl) ?_
        obtain ⟨hd, hM⟩ := h_g hM
        refine lv_lrem hx hb dX6_commonDivisor_28 hd ?_
        refine lv_lstore (lv' := [(9, .long (y4 - y4 / y6 * y6)), (0, .long y0), (2, .long y2), (4, .long y4), (6, .long y6), (8, .int y8)]) hx hb dX6_commonDivisor_29 hl (by decide) rfl (fun ls hl => ?_)
        refine lv_lload hx hb dX6_commonDivisor_31 (lv_at hl 4 rfl) ?_
        refine lv_lstore (lv' := [(4, .long y6), (9, .long (y4 - y4 / y6 * y6)), (0, .long y0), (2, .long y2), (6, .long y6), (8, .int y8)]) hx hb dX6_commonDivisor_33 hl (by decide) rfl (fun ls hl => ?_)
        refine lv_lload hx hb dX6_commonDivisor_35 (lv_at hl 1 rfl) ?_
        refine lv_lstore (lv' := [(6, .long (y4 - y4 / y6 * y6)), (4, .long y6), (9, .long (y4 - y4 / y6 * y6)), (0, .long y0), (2, .long y2), (8, .int y8)]) hx hb dX6_commonDivisor_37 hl (by decide) rfl (fun ls hl => ?_)
        refine lv_iinc (v := (y8 + 1)) (lv' := [(8, .int (y8 + 1)), (6, .long (y4 - y4 / y6 * y6)), (4, .long y6), (9, .long (y4 - y4 / y6 * y6)), (0, .long y0), (2, .long y2)]) hx hb dX6_commonDivisor_39 hl (k := 5) rfl rfl (by decide) rfl (fun ls hl => ?_)
        refine lv_goto (tgt := 9) hx hb dX6_commonDivisor_42 (by decide) ?_
        exact ih (y0) (y2) (y6) ((y4 - y4 / y6 * y6)) ((y8 + 1)) hM hw (lv_sub hl [4, 5, 2, 1, 0] rfl)
theorem k_X6_commonDivisor : aCalS yX6_commonDivisor cX6_commonDivisor 11 (some .long) 2 := ⟨wS_yX6_commonDivisor, wZ_X6, wC_yX6_commonDivisor, by decide +kernel⟩
set_option maxHeartbeats 4000000 in
set_option maxRecDepth 100000 in
theorem c_X6_commonDivisor (l : Launch) {x1 : Int64} {x2 : Int64} {ι : iS} {res : Int64 × iS} (hM : m_X6_commonDivisor x1 x2 ι = some res) : aM l yX6_commonDivisor cX6_commonDivisor 11 (some .long) rm_X6_commonDivisor (fun ad => [.long x1, .long x2]) (aG ι) (some (.long res.1)) (aG res.2) := by
  refine aM.of (by decide) (fun _ => Nat.le_of_ble_eq_true rfl) ?_
  intro p e s m args below meth c D dA ad adV A ls C hw hl
  have C : aX p m c cX6_commonDivisor 11 s args aTs RX6 meth (some .long) := C
  have hx := C.1.1
  have hb := C.1.2.1
  have hml := C.1.2.2.1
  have hown := C.1.2.2.2.1
  have hts := C.1.2.2.2.2
  have hl : lv_has ls 11 [(0, .long x1), (2, .long x2)] := hl
  unfold m_X6_commonDivisor at hM
  refine lv_lload_n hx hb dX6_commonDivisor_0 rfl (lv_at hl 0 rfl) ?_
  refine lv_lstore (lv' := [(4, .long x1), (0, .long x1), (2, .long x2)]) hx hb dX6_commonDivisor_1 hl (by decide) rfl (fun ls hl => ?_)
  refine lv_lload_n hx hb dX6_commonDivisor_3 rfl (lv_at hl 2 rfl) ?_
  refine lv_lstore (lv' := [(6, .long x2), (4, .long x1), (0, .long x1), (2, .long x2)]) hx hb dX6_commonDivisor_4 hl (by decide) rfl (fun ls hl => ?_)
  refine lv_iconst (v := (0 : Int32)) hx hb dX6_commonDivisor_6 (by decide) ?_
  refine lv_istore (lv' := [(8, .int (0 : Int32)), (6, .long x2), (4, .long x1), (0, .long x1), (2, .long x2)]) hx hb dX6_commonDivisor_7 hl (by decide) rfl (fun ls hl => ?_)
  exact tl_X6_commonDivisor_9 l C aF (x1) (x2) (x1) (x2) ((0 : Int32)) hM hw (lv_sub hl [3, 4, 2, 1, 0] rfl)
def rm_X6_partOfFraction : Room := { frames := 1, cells := 0, slots := 0, locals := 30 }
theorem k_X6_partOfFraction : aCalS yX6_partOfFraction cX6_partOfFraction 9 (some .long) 3 := ⟨wS_yX6_partOfFraction, wZ_X6, wC_yX6_partOfFraction, by decide +kernel⟩
set_option maxHeartbeats 4000000 in
set_option maxRecDepth 100000 in
theorem c_X6_partOfFraction (l : Launch) {x1 : Int64} {x2 : Int64} {x3 : Int32} {ι : iS} {res : Int64 × iS} (hM : m_X6_partOfFraction x1 x2 x3 ι = some res) : aM l yX6_partOfFraction cX6_partOfFraction 9 (some .long) rm_X6_partOfFraction (fun ad => [.long x1, .long x2, .int x3]) (aG ι) (some (.long res.1)) (aG res.2) := by
  refine aM.of (by decide) (fun _ => Nat.le_of_ble_eq_true rfl) ?_
  intro p e s m args below meth c D dA ad adV A ls C hw hl
  have C : aX p m c cX6_partOfFraction 9 s args aTs RX6 meth (some .long) := C
  have hx := C.1.1
  have hb := C.1.2.1
  have hml := C.1.2.2.1
  have hown := C.1.2.2.2.1
  have hts := C.1.2.2.2.2
  have hl : lv_has ls 9 [(0, .long x1), (2, .long x2), (4, .int x3)] := hl
  unfold m_X6_partOfFraction at hM
  refine lv_lload_n hx hb dX6_partOfFraction_0 rfl (lv_at hl 0 rfl) ?_
  refine lv_lconst (v := (0 : Int64)) hx hb dX6_partOfFraction_1 (by decide) ?_
  refine W.lcmp hx hb dX6_partOfFraction_2 ?_
  refine lv_if_le (tgt := 12) hx hb dX6_partOfFraction_3 (by decide) (fun hc => ?_) (fun hc => ?_)
  · replace hM := h_t hc hM
    refine lv_iload hx hb dX6_partOfFraction_12 (lv_at hl 2 rfl) ?_
    refine lv_if_ne (tgt := 21) hx hb dX6_partOfFraction_14 (by decide) (fun hc => ?_) (fun hc => ?_)
    · replace hM := h_f hc hM
      refine lv_lconst (v := (1 : Int64)) hx hb dX6_partOfFraction_21 (by decide) ?_
      cases h_e hM
      exact a_lret C hw dX6_partOfFraction_22
    · replace hM := h_t hc hM
      refine lv_lconst (v := (0 : Int64)) hx hb dX6_partOfFraction_17 (by decide) ?_
      refine lv_goto (tgt := 22) hx hb dX6_partOfFraction_18 (by decide) ?_
      cases h_e hM
      exact a_lret C hw dX6_partOfFraction_22
  · replace hM := h_f hc hM
    refine lv_lload_n hx hb dX6_partOfFraction_6 rfl (lv_at hl 1 rfl) ?_
    refine lv_lconst (v := (0 : Int64)) hx hb dX6_partOfFraction_7 (by decide) ?_
    refine W.lcmp hx hb dX6_partOfFraction_8 ?_
    refine lv_if_gt (tgt := 23) hx hb dX6_partOfFraction_9 (by decide) (fun hc => ?_) (fun hc => ?_)
    · replace hM := h_t hc hM
      refine lv_lload_n hx hb dX6_partOfFraction_23 rfl (lv_at hl 0 rfl) ?_
      refine lv_lload_n hx hb dX6_partOfFraction_24 rfl (lv_at hl 1 rfl) ?_
      obtain ⟨r25, hr25, hM⟩ := h_b hM
      refine a_callS  (σ' := aG r25.2) (v := (some (.long r25.1))) (as := fun ad => [.long x1, .long x2]) (rest := []) C hw (c_X6_commonDivisor l hr25) k_X6_commonDivisor wM_X6_231 ⟨⟨rfl, rfl⟩, ⟨Nat.le_of_ble_eq_true rfl, Nat.le_of_ble_eq_true rfl⟩⟩ rfl hl rfl (Nat.le_of_ble_eq_true rfl) dX6_partOfFraction_25 ⟨Nat.zero_le _, Nat.zero_le _⟩ (fun H locs hw => ?_)
      refine lv_lstore (lv' := [(5, .long r25.1), (0, .long x1), (2, .long x2), (4, .int x3)]) hx hb dX6_partOfFraction_28 hl (by decide) rfl (fun ls hl => ?_)
      refine lv_iload hx hb dX6_partOfFraction_30 (lv_at hl 3 rfl) ?_
      refine lv_if_ne (tgt := 39) hx hb dX6_partOfFraction_32 (by decide) (fun hc => ?_) (fun hc => ?_)
      · replace hM := h_f hc hM
        refine lv_lload_n hx hb dX6_partOfFraction_39 rfl (lv_at hl 2 rfl) ?_
        refine lv_lstore (lv' := [(7, .long x2), (5, .long r25.1), (0, .long x1), (2, .long x2), (4, .int x3)]) hx hb dX6_partOfFraction_40 hl (by decide) rfl (fun ls hl => ?_)
        refine lv_lload hx hb dX6_partOfFraction_42 (lv_at hl 1 rfl) ?_
        refine lv_lconst (v := (0 : Int64)) hx hb dX6_partOfFraction_44 (by decide) ?_
        refine W.lcmp hx hb dX6_partOfFraction_45 ?_
        refine lv_if_gt (tgt := 54) hx hb dX6_partOfFraction_46 (by decide) (fun hc => ?_) (fun hc => ?_)
        · replace hM := h_t hc hM
          refine lv_lload hx hb dX6_partOfFraction_54 (lv_at hl 0 rfl) ?_
          refine lv_lload hx hb dX6_partOfFraction_56 (lv_at hl 1 rfl) ?_
          obtain ⟨hd, hM⟩ := h_g hM
          refine lv_ldiv hx hb dX6_partOfFraction_58 hd ?_
          cases h_e hM
          exact a_lret C hw dX6_partOfFraction_59
        · replace hM := h_f hc hM
          refine lv_lload hx hb dX6_partOfFraction_49 (lv_at hl 0 rfl) ?_
          refine lv_goto (tgt := 59) hx hb dX6_partOfFraction_51 (by decide) ?_
          cases h_e hM
          exact a_lret C hw dX6_partOfFraction_59
      · replace hM := h_t hc hM
        refine lv_lload_n hx hb dX6_partOfFraction_35 rfl (lv_at hl 1 rfl) ?_
        refine lv_goto (tgt := 40) hx hb dX6_partOfFraction_36 (by decide) ?_
        refine lv_lstore (lv' := [(7, .long x1), (5, .long r25.1), (0, .long x1), (2, .long x2), (4, .int x3)]) hx hb dX6_partOfFraction_40 hl (by decide) rfl (fun ls hl => ?_)
        refine lv_lload hx hb dX6_partOfFraction_42 (lv_at hl 1 rfl) ?_
        refine lv_lconst (v := (0 : Int64)) hx hb dX6_partOfFraction_44 (by decide) ?_
        refine W.lcmp hx hb dX6_partOfFraction_45 ?_
        refine lv_if_gt (tgt := 54) hx hb dX6_partOfFraction_46 (by decide) (fun hc => ?_) (fun hc => ?_)
        · replace hM := h_t hc hM
          refine lv_lload hx hb dX6_partOfFraction_54 (lv_at hl 0 rfl) ?_
          refine lv_lload hx hb dX6_partOfFraction_56 (lv_at hl 1 rfl) ?_
          obtain ⟨hd, hM⟩ := h_g hM
          refine lv_ldiv hx hb dX6_partOfFraction_58 hd ?_
          cases h_e hM
          exact a_lret C hw dX6_partOfFraction_59
        · replace hM := h_f hc hM
          refine lv_lload hx hb dX6_partOfFraction_49 (lv_at hl 0 rfl) ?_
          refine lv_goto (tgt := 59) hx hb dX6_partOfFraction_51 (by decide) ?_
          cases h_e hM
          exact a_lret C hw dX6_partOfFraction_59
    · replace hM := h_f hc hM
      refine lv_iload hx hb dX6_partOfFraction_12 (lv_at hl 2 rfl) ?_
      refine lv_if_ne (tgt := 21) hx hb dX6_partOfFraction_14 (by decide) (fun hc => ?_) (fun hc => ?_)
      · replace hM := h_f hc hM
        refine lv_lconst (v := (1 : Int64)) hx hb dX6_partOfFraction_21 (by decide) ?_
        cases h_e hM
        exact a_lret C hw dX6_partOfFraction_22
      · replace hM := h_t hc hM
        refine lv_lconst (v := (0 : Int64)) hx hb dX6_partOfFraction_17 (by decide) ?_
        refine lv_goto (tgt := 22) hx hb dX6_partOfFraction_18 (by decide) ?_
        cases h_e hM
        exact a_lret C hw dX6_partOfFraction_22
def rm_X5_casesBelow : Room := { frames := 2, cells := 0, slots := 0, locals := 50 }
theorem k_X5_casesBelow : aCal RX5 yX5_casesBelow cX5_casesBelow 3 (some .int) 2 := ⟨wI_yX5_casesBelow, wE_yX5_casesBelow, wZ_X5, wC_yX5_casesBelow, by decide +kernel⟩
set_option maxHeartbeats 4000000 in
set_option maxRecDepth 100000 in
theorem c_X5_casesBelow (l : Launch) {o : Nat} {x1 : Int32} {x2 : Int32} (ho : aWit o = true) {ι : iS} {res : Int32 × iS} (hM : m_X5_casesBelow o x1 x2 ι = some res) : aM l yX5_casesBelow cX5_casesBelow 3 (some .int) rm_X5_casesBelow (fun ad => [.ref (ad o), .int x1, .int x2]) (aG ι) (some (.int res.1)) (aG res.2) := by
  refine aM.of (by decide) (fun _ => Nat.le_of_ble_eq_true rfl) ?_
  intro p e s m args below meth c D dA ad adV A ls C hw hl
  have C : aX p m c cX5_casesBelow 3 s args aTs RX5 meth (some .int) := C
  have hx := C.1.1
  have hb := C.1.2.1
  have hml := C.1.2.2.1
  have hown := C.1.2.2.2.1
  have hts := C.1.2.2.2.2
  have hl : lv_has ls 3 [(0, .ref (ad o)), (1, .int x1), (2, .int x2)] := hl
  unfold m_X5_casesBelow at hM
  refine lv_iload_n hx hb dX5_casesBelow_0 rfl (lv_at hl 2 rfl) ?_
  refine lv_aload_n hx hb dX5_casesBelow_1 rfl (lv_at hl 0 rfl) ?_
  refine a_getp (q := (o + 1)) (σ := aG ι) (o := o) (T := TX5) (N := 5) C wU_X5 hw (aWit_k ho).1 (by decide) rfl 1 (by decide) rfl wF_X5_15 (aWit_p ho ι) dX5_casesBelow_2 ?_
  refine lv_iload_n hx hb dX5_casesBelow_5 rfl (lv_at hl 1 rfl) ?_
  obtain ⟨hi, hM⟩ := h_i hM
  refine a_iald (σ := aG ι) (o := (o + 1)) C hw (aWit_k ho).2 hi rfl dX5_casesBelow_6 ?_
  refine lv_isub hx hb dX5_casesBelow_7 ?_
  refine lv_aload_n hx hb dX5_casesBelow_8 rfl (lv_at hl 0 rfl) ?_
  refine a_geti (σ := aG ι) (o := o) (T := TX5) (N := 5) C wU_X5 hw (aWit_k ho).1 (by decide) rfl 3 (by decide) rfl wF_X5_22 dX5_casesBelow_9 ?_
  refine lv_iadd hx hb dX5_casesBelow_12 ?_
  refine lv_iconst (v := (0 : Int32)) hx hb dX5_casesBelow_13 (by decide) ?_
  refine lv_aload_n hx hb dX5_casesBelow_14 rfl (lv_at hl 0 rfl) ?_
  refine a_geti (σ := aG ι) (o := o) (T := TX5) (N := 5) C wU_X5 hw (aWit_k ho).1 (by decide) rfl 4 (by decide) rfl wF_X5_25 dX5_casesBelow_15 ?_
  obtain ⟨r18, hr18, hM⟩ := h_b hM
  refine a_callSN (host := "LineupDesk") (σ' := aG r18.2) (v := (some (.int r18.1))) (as := fun ad => [.int ((x2 - (gI ι (o + 1) x1.toNatClampNeg)) + (gI ι o 3)), .int (0 : Int32), .int (gI ι o 4)]) (rest := []) C hw (c_X6_held l hr18) k_X6_held (by decide) ⟨⟨rfl, rfl⟩, ⟨Nat.le_of_ble_eq_true rfl, Nat.le_of_ble_eq_true rfl⟩⟩ rfl hl rfl (Nat.le_of_ble_eq_true rfl) dX5_casesBelow_18 ⟨Nat.zero_le _, Nat.zero_le _⟩ (fun H locs hw => ?_)
  cases h_e hM
  exact a_iret C hw dX5_casesBelow_21
def rm_X5_power : Room := { frames := 0, cells := 0, slots := 0, locals := 0 }
set_option maxHeartbeats 4000000 in
set_option maxRecDepth 100000 in
theorem tl_X5_power_5 (l : Launch) {p : Program} {e : Env} {s : State} {m : MethodId} {args : Array Value} {below : List Frame} {meth : Method} {c : Code} {D : va_G} {dA : Nat → ClassId} {ad adV : Nat → Nat} {A : Nat → Prop} (C : aX p m c cX5_power 5 s args aTs RX5 meth (some .long)) {o : Nat} (ho : aWit o = true) {res : Int64 × iS} : ∀ (n : Nat) (y1 : Int32) (y2 : Int64) (y4 : Int32) {ι : iS}, l_X5_power_5 o n y1 y2 y4 ι = some res → ∀ {H : Heap} {locs : List Loc} {ls : Array Slot}, aW D dA ad adV (aG ι) A s H locs → lv_has ls 5 [(0, .ref (ad o)), (1, .int y1), (2, .long y2), (4, .int y4)] → W p l e rm_X5_power s m args below meth c H locs 0 0 (MQ below (aQ D dA ad (aG res.2) A (some (.long res.1))) args s 0 0 A) (F0 m 5 ls []) := by
  have hx := C.1.1
  have hb := C.1.2.1
  have hml := C.1.2.2.1
  have hown := C.1.2.2.2.1
  have hts := C.1.2.2.2.2
  intro n
  induction n with
  | zero => intro y1 y2 y4 ι hM; simp [l_X5_power_5] at hM
  | succ n ih =>
    intro y1 y2 y4 ι hM H locs ls hw hl
    rw [l_X5_power_5] at hM
    refine lv_iload hx hb dX5_power_5 (lv_at hl 3 rfl) ?_
    refine lv_iload_n hx hb dX5_power_7 rfl (lv_at hl 1 rfl) ?_
    refine lv_icmp_ge (tgt := 25) hx hb dX5_power_8 (by decide) (fun hc => ?_) (fun hc => ?_)
    · replace hM := h_t hc hM
      refine lv_lload_n hx hb dX5_power_25 rfl (lv_at hl 2 rfl) ?_
      cases h_e hM
      exact a_lret C hw dX5_power_26
    · replace hM := h_f hc hM
      refine lv_lload_n hx hb dX5_power_11 rfl (lv_at hl 2 rfl) ?_
      refine lv_aload_n hx hb dX5_power_12 rfl (lv_at hl 0 rfl) ?_
      refine a_geti (σ := aG ι) (o := o) (T := TX5) (N := 5) C wU_X5 hw (aWit_k ho).1 (by decide) rfl 4 (by decide) rfl wF_X5_25 dX5_power_13 ?_
      refine lv_i2l hx hb dX5_power_16 rfl ?_
      refine lv_lmul hx hb dX5_power_17 ?_
      refine lv_lstore_n (lv' := [(2, .long (y2 * ((gI ι o 4)).toInt64)), (0, .ref (ad o)), (1, .int y1), (4, .int y4)]) hx hb dX5_power_18 rfl hl (by decide) rfl (fun ls hl => ?_)
      refine lv_iinc (v := (y4 + 1)) (lv' := [(4, .int (y4 + 1)), (2, .long (y2 * ((gI ι o 4)).toInt64)), (0, .ref (ad o)), (1, .int y1)]) hx hb dX5_power_19 hl (k := 3) rfl rfl (by decide) rfl (fun ls hl => ?_)
      refine lv_goto (tgt := 5) hx hb dX5_power_22 (by decide) ?_
      exact ih (y1) ((y2 * ((gI ι o 4)).toInt64)) ((y4 + 1)) hM hw (lv_sub hl [2, 3, 1, 0] rfl)
theorem k_X5_power : aCal RX5 yX5_power cX5_power 5 (some .long) 1 := ⟨wI_yX5_power, wE_yX5_power, wZ_X5, wC_yX5_power, by decide +kernel⟩
set_option maxHeartbeats 4000000 in
set_option maxRecDepth 100000 in
theorem c_X5_power (l : Launch) {o : Nat} {x1 : Int32} (ho : aWit o = true) {ι : iS} {res : Int64 × iS} (hM : m_X5_power o x1 ι = some res) : aM l yX5_power cX5_power 5 (some .long) rm_X5_power (fun ad => [.ref (ad o), .int x1]) (aG ι) (some (.long res.1)) (aG res.2) := by
  refine aM.of (by decide) (fun _ => Nat.le_of_ble_eq_true rfl) ?_
  intro p e s m args below meth c D dA ad adV A ls C hw hl
  have C : aX p m c cX5_power 5 s args aTs RX5 meth (some .long) := C
  have hx := C.1.1
  have hb := C.1.2.1
  have hml := C.1.2.2.1
  have hown := C.1.2.2.2.1
  have hts := C.1.2.2.2.2
  have hl : lv_has ls 5 [(0, .ref (ad o)), (1, .int x1)] := hl
  unfold m_X5_power at hM
  refine lv_lconst (v := (1 : Int64)) hx hb dX5_power_0 (by decide) ?_
  refine lv_lstore_n (lv' := [(2, .long (1 : Int64)), (0, .ref (ad o)), (1, .int x1)]) hx hb dX5_power_1 rfl hl (by decide) rfl (fun ls hl => ?_)
  refine lv_iconst (v := (0 : Int32)) hx hb dX5_power_2 (by decide) ?_
  refine lv_istore (lv' := [(4, .int (0 : Int32)), (2, .long (1 : Int64)), (0, .ref (ad o)), (1, .int x1)]) hx hb dX5_power_3 hl (by decide) rfl (fun ls hl => ?_)
  exact tl_X5_power_5 l C ho aF (x1) ((1 : Int64)) ((0 : Int32)) hM hw (lv_sub hl [2, 3, 1, 0] rfl)
def rm_X5_casesAllBelow : Room := { frames := 3, cells := 0, slots := 0, locals := 72 }
set_option maxHeartbeats 4000000 in
set_option maxRecDepth 100000 in
theorem tl_X5_casesAllBelow_5 (l : Launch) {p : Program} {e : Env} {s : State} {m : MethodId} {args : Array Value} {below : List Frame} {meth : Method} {c : Code} {D : va_G} {dA : Nat → ClassId} {ad adV : Nat → Nat} {A : Nat → Prop} (C : aX p m c cX5_casesAllBelow 5 s args aTs RX5 meth (some .long)) {o : Nat} (ho : aWit o = true) {res : Int64 × iS} : ∀ (n : Nat) (y1 : Int32) (y2 : Int64) (y4 : Int32) {ι : iS}, l_X5_casesAllBelow_5 o n y1 y2 y4 ι = some res → ∀ {H : Heap} {locs : List Loc} {ls : Array Slot}, aW D dA ad adV (aG ι) A s H locs → lv_has ls 5 [(0, .ref (ad o)), (1, .int y1), (2, .long y2), (4, .int y4)] → W p l e rm_X5_casesAllBelow s m args below meth c H locs 0 0 (MQ below (aQ D dA ad (aG res.2) A (some (.long res.1))) args s 0 0 A) (F0 m 5 ls []) := by
  have hx := C.1.1
  have hb := C.1.2.1
  have hml := C.1.2.2.1
  have hown := C.1.2.2.2.1
  have hts := C.1.2.2.2.2
  intro n
  induction n with
  | zero => intro y1 y2 y4 ι hM; simp [l_X5_casesAllBelow_5] at hM
  | succ n ih =>
    intro y1 y2 y4 ι hM H locs ls hw hl
    rw [l_X5_casesAllBelow_5] at hM
    refine lv_iload hx hb dX5_casesAllBelow_5 (lv_at hl 3 rfl) ?_
    refine lv_iload_n hx hb dX5_casesAllBelow_7 rfl (lv_at hl 1 rfl) ?_
    refine lv_icmp_ge (tgt := 31) hx hb dX5_casesAllBelow_8 (by decide) (fun hc => ?_) (fun hc => ?_)
    · replace hM := h_t hc hM
      refine lv_lload_n hx hb dX5_casesAllBelow_31 rfl (lv_at hl 2 rfl) ?_
      cases h_e hM
      exact a_lret C hw dX5_casesAllBelow_32
    · replace hM := h_f hc hM
      refine lv_lload_n hx hb dX5_casesAllBelow_11 rfl (lv_at hl 2 rfl) ?_
      refine lv_aload_n hx hb dX5_casesAllBelow_12 rfl (lv_at hl 0 rfl) ?_
      refine lv_iload hx hb dX5_casesAllBelow_13 (lv_at hl 3 rfl) ?_
      refine lv_aload_n hx hb dX5_casesAllBelow_15 rfl (lv_at hl 0 rfl) ?_
      refine a_geti (σ := aG ι) (o := o) (T := TX5) (N := 5) C wU_X5 hw (aWit_k ho).1 (by decide) rfl 0 (by decide) rfl wF_X5_9 dX5_casesAllBelow_16 ?_
      obtain ⟨r19, hr19, hM⟩ := h_b hM
      refine a_callV (σ' := aG r19.2) (v := (some (.int r19.1))) (As := fun ad => [.int y4, .int (gI ι o 0)]) (rest := [.long y2]) (o := o) C hw (c_X5_casesBelow l (ho) hr19) k_X5_casesBelow wM_X5_56 ⟨⟨rfl, rfl⟩, ⟨Nat.le_of_ble_eq_true rfl, Nat.le_of_ble_eq_true rfl⟩⟩ (aWit_k ho).1 (by decide) rfl rfl rfl hl rfl (Nat.le_of_ble_eq_true rfl) dX5_casesAllBelow_19 ⟨Nat.zero_le _, Nat.zero_le _⟩ (fun H locs hw => ?_)
      refine lv_i2l hx hb dX5_casesAllBelow_22 rfl ?_
      refine lv_lmul hx hb dX5_casesAllBelow_23 ?_
      refine lv_lstore_n (lv' := [(2, .long (y2 * (r19.1).toInt64)), (0, .ref (ad o)), (1, .int y1), (4, .int y4)]) hx hb dX5_casesAllBelow_24 rfl hl (by decide) rfl (fun ls hl => ?_)
      refine lv_iinc (v := (y4 + 1)) (lv' := [(4, .int (y4 + 1)), (2, .long (y2 * (r19.1).toInt64)), (0, .ref (ad o)), (1, .int y1)]) hx hb dX5_casesAllBelow_25 hl (k := 3) rfl rfl (by decide) rfl (fun ls hl => ?_)
      refine lv_goto (tgt := 5) hx hb dX5_casesAllBelow_28 (by decide) ?_
      exact ih (y1) ((y2 * (r19.1).toInt64)) ((y4 + 1)) hM hw (lv_sub hl [2, 3, 1, 0] rfl)
theorem k_X5_casesAllBelow : aCal RX5 yX5_casesAllBelow cX5_casesAllBelow 5 (some .long) 1 := ⟨wI_yX5_casesAllBelow, wE_yX5_casesAllBelow, wZ_X5, wC_yX5_casesAllBelow, by decide +kernel⟩
set_option maxHeartbeats 4000000 in
set_option maxRecDepth 100000 in
theorem c_X5_casesAllBelow (l : Launch) {o : Nat} {x1 : Int32} (ho : aWit o = true) {ι : iS} {res : Int64 × iS} (hM : m_X5_casesAllBelow o x1 ι = some res) : aM l yX5_casesAllBelow cX5_casesAllBelow 5 (some .long) rm_X5_casesAllBelow (fun ad => [.ref (ad o), .int x1]) (aG ι) (some (.long res.1)) (aG res.2) := by
  refine aM.of (by decide) (fun _ => Nat.le_of_ble_eq_true rfl) ?_
  intro p e s m args below meth c D dA ad adV A ls C hw hl
  have C : aX p m c cX5_casesAllBelow 5 s args aTs RX5 meth (some .long) := C
  have hx := C.1.1
  have hb := C.1.2.1
  have hml := C.1.2.2.1
  have hown := C.1.2.2.2.1
  have hts := C.1.2.2.2.2
  have hl : lv_has ls 5 [(0, .ref (ad o)), (1, .int x1)] := hl
  unfold m_X5_casesAllBelow at hM
  refine lv_lconst (v := (1 : Int64)) hx hb dX5_casesAllBelow_0 (by decide) ?_
  refine lv_lstore_n (lv' := [(2, .long (1 : Int64)), (0, .ref (ad o)), (1, .int x1)]) hx hb dX5_casesAllBelow_1 rfl hl (by decide) rfl (fun ls hl => ?_)
  refine lv_iconst (v := (0 : Int32)) hx hb dX5_casesAllBelow_2 (by decide) ?_
  refine lv_istore (lv' := [(4, .int (0 : Int32)), (2, .long (1 : Int64)), (0, .ref (ad o)), (1, .int x1)]) hx hb dX5_casesAllBelow_3 hl (by decide) rfl (fun ls hl => ?_)
  exact tl_X5_casesAllBelow_5 l C ho aF (x1) ((1 : Int64)) ((0 : Int32)) hM hw (lv_sub hl [2, 3, 1, 0] rfl)
def rm_X5_casesGreatest : Room := { frames := 3, cells := 0, slots := 0, locals := 72 }
set_option maxHeartbeats 4000000 in
set_option maxRecDepth 100000 in
theorem tl_X5_casesGreatest_5 (l : Launch) {p : Program} {e : Env} {s : State} {m : MethodId} {args : Array Value} {below : List Frame} {meth : Method} {c : Code} {D : va_G} {dA : Nat → ClassId} {ad adV : Nat → Nat} {A : Nat → Prop} (C : aX p m c cX5_casesGreatest 6 s args aTs RX5 meth (some .long)) {o : Nat} (ho : aWit o = true) {res : Int64 × iS} : ∀ (n : Nat) (y1 : Int32) (y2 : Int32) (y3 : Int64) (y5 : Int32) {ι : iS}, l_X5_casesGreatest_5 o n y1 y2 y3 y5 ι = some res → ∀ {H : Heap} {locs : List Loc} {ls : Array Slot}, aW D dA ad adV (aG ι) A s H locs → lv_has ls 6 [(0, .ref (ad o)), (1, .int y1), (2, .int y2), (3, .long y3), (5, .int y5)] → W p l e rm_X5_casesGreatest s m args below meth c H locs 0 0 (MQ below (aQ D dA ad (aG res.2) A (some (.long res.1))) args s 0 0 A) (F0 m 5 ls []) := by
  have hx := C.1.1
  have hb := C.1.2.1
  have hml := C.1.2.2.1
  have hown := C.1.2.2.2.1
  have hts := C.1.2.2.2.2
  intro n
  induction n with
  | zero => intro y1 y2 y3 y5 ι hM; simp [l_X5_casesGreatest_5] at hM
  | succ n ih =>
    intro y1 y2 y3 y5 ι hM H locs ls hw hl
    rw [l_X5_casesGreatest_5] at hM
    refine lv_iload hx hb dX5_casesGreatest_5 (lv_at hl 4 rfl) ?_
    refine lv_aload_n hx hb dX5_casesGreatest_7 rfl (lv_at hl 0 rfl) ?_
    refine a_geti (σ := aG ι) (o := o) (T := TX5) (N := 5) C wU_X5 hw (aWit_k ho).1 (by decide) rfl 2 (by decide) rfl wF_X5_19 dX5_casesGreatest_8 ?_
    refine lv_icmp_ge (tgt := 49) hx hb dX5_casesGreatest_11 (by decide) (fun hc => ?_) (fun hc => ?_)
    · replace hM := h_t hc hM
      refine lv_lload_n hx hb dX5_casesGreatest_49 rfl (lv_at hl 3 rfl) ?_
      cases h_e hM
      exact a_lret C hw dX5_casesGreatest_50
    · replace hM := h_f hc hM
      refine lv_iload hx hb dX5_casesGreatest_14 (lv_at hl 4 rfl) ?_
      refine lv_iload_n hx hb dX5_casesGreatest_16 rfl (lv_at hl 1 rfl) ?_
      refine lv_icmp_eq (tgt := 43) hx hb dX5_casesGreatest_17 (by decide) (fun hc => ?_) (fun hc => ?_)
      · replace hM := h_t hc hM
        refine lv_iinc (v := (y5 + 1)) (lv' := [(5, .int (y5 + 1)), (0, .ref (ad o)), (1, .int y1), (2, .int y2), (3, .long y3)]) hx hb dX5_casesGreatest_43 hl (k := 4) rfl rfl (by decide) rfl (fun ls hl => ?_)
        refine lv_goto (tgt := 5) hx hb dX5_casesGreatest_46 (by decide) ?_
        exact ih (y1) (y2) (y3) ((y5 + 1)) hM hw (lv_sub hl [1, 2, 3, 4, 0] rfl)
      · replace hM := h_f hc hM
        refine lv_lload_n hx hb dX5_casesGreatest_20 rfl (lv_at hl 3 rfl) ?_
        refine lv_aload_n hx hb dX5_casesGreatest_21 rfl (lv_at hl 0 rfl) ?_
        refine lv_iload hx hb dX5_casesGreatest_22 (lv_at hl 4 rfl) ?_
        refine lv_iload hx hb dX5_casesGreatest_24 (lv_at hl 4 rfl) ?_
        refine lv_iload_n hx hb dX5_casesGreatest_26 rfl (lv_at hl 1 rfl) ?_
        refine lv_icmp_ge (tgt := 34) hx hb dX5_casesGreatest_27 (by decide) (fun hc => ?_) (fun hc => ?_)
        · replace hM := h_t hc hM
          refine lv_iload_n hx hb dX5_casesGreatest_34 rfl (lv_at hl 2 rfl) ?_
          refine lv_iconst (v := (1 : Int32)) hx hb dX5_casesGreatest_35 (by decide) ?_
          refine lv_iadd hx hb dX5_casesGreatest_36 ?_
          obtain ⟨r37, hr37, hM⟩ := h_b hM
          refine a_callV (σ' := aG r37.2) (v := (some (.int r37.1))) (As := fun ad => [.int y5, .int (y2 + (1 : Int32))]) (rest := [.long y3]) (o := o) C hw (c_X5_casesBelow l (ho) hr37) k_X5_casesBelow wM_X5_56 ⟨⟨rfl, rfl⟩, ⟨Nat.le_of_ble_eq_true rfl, Nat.le_of_ble_eq_true rfl⟩⟩ (aWit_k ho).1 (by decide) rfl rfl rfl hl rfl (Nat.le_of_ble_eq_true rfl) dX5_casesGreatest_37 ⟨Nat.zero_le _, Nat.zero_le _⟩ (fun H locs hw => ?_)
          refine lv_i2l hx hb dX5_casesGreatest_40 rfl ?_
          refine lv_lmul hx hb dX5_casesGreatest_41 ?_
          refine lv_lstore_n (lv' := [(3, .long (y3 * (r37.1).toInt64)), (0, .ref (ad o)), (1, .int y1), (2, .int y2), (5, .int y5)]) hx hb dX5_casesGreatest_42 rfl hl (by decide) rfl (fun ls hl => ?_)
          refine lv_iinc (v := (y5 + 1)) (lv' := [(5, .int (y5 + 1)), (3, .long (y3 * (r37.1).toInt64)), (0, .ref (ad o)), (1, .int y1), (2, .int y2)]) hx hb dX5_casesGreatest_43 hl (k := 4) rfl rfl (by decide) rfl (fun ls hl => ?_)
          refine lv_goto (tgt := 5) hx hb dX5_casesGreatest_46 (by decide) ?_
          exact ih (y1) (y2) ((y3 * (r37.1).toInt64)) ((y5 + 1)) hM hw (lv_sub hl [2, 3, 4, 1, 0] rfl)
        · replace hM := h_f hc hM
          refine lv_iload_n hx hb dX5_casesGreatest_30 rfl (lv_at hl 2 rfl) ?_
          refine lv_goto (tgt := 37) hx hb dX5_casesGreatest_31 (by decide) ?_
          obtain ⟨r37, hr37, hM⟩ := h_b hM
          refine a_callV (σ' := aG r37.2) (v := (some (.int r37.1))) (As := fun ad => [.int y5, .int y2]) (rest := [.long y3]) (o := o) C hw (c_X5_casesBelow l (ho) hr37) k_X5_casesBelow wM_X5_56 ⟨⟨rfl, rfl⟩, ⟨Nat.le_of_ble_eq_true rfl, Nat.le_of_ble_eq_true rfl⟩⟩ (aWit_k ho).1 (by decide) rfl rfl rfl hl rfl (Nat.le_of_ble_eq_true rfl) dX5_casesGreatest_37 ⟨Nat.zero_le _, Nat.zero_le _⟩ (fun H locs hw => ?_)
          refine lv_i2l hx hb dX5_casesGreatest_40 rfl ?_
          refine lv_lmul hx hb dX5_casesGreatest_41 ?_
          refine lv_lstore_n (lv' := [(3, .long (y3 * (r37.1).toInt64)), (0, .ref (ad o)), (1, .int y1), (2, .int y2), (5, .int y5)]) hx hb dX5_casesGreatest_42 rfl hl (by decide) rfl (fun ls hl => ?_)
          refine lv_iinc (v := (y5 + 1)) (lv' := [(5, .int (y5 + 1)), (3, .long (y3 * (r37.1).toInt64)), (0, .ref (ad o)), (1, .int y1), (2, .int y2)]) hx hb dX5_casesGreatest_43 hl (k := 4) rfl rfl (by decide) rfl (fun ls hl => ?_)
          refine lv_goto (tgt := 5) hx hb dX5_casesGreatest_46 (by decide) ?_
          exact ih (y1) (y2) ((y3 * (r37.1).toInt64)) ((y5 + 1)) hM hw (lv_sub hl [2, 3, 4, 1, 0] rfl)
theorem k_X5_casesGreatest : aCal RX5 yX5_casesGreatest cX5_casesGreatest 6 (some .long) 2 := ⟨wI_yX5_casesGreatest, wE_yX5_casesGreatest, wZ_X5, wC_yX5_casesGreatest, by decide +kernel⟩
set_option maxHeartbeats 4000000 in
set_option maxRecDepth 100000 in
theorem c_X5_casesGreatest (l : Launch) {o : Nat} {x1 : Int32} {x2 : Int32} (ho : aWit o = true) {ι : iS} {res : Int64 × iS} (hM : m_X5_casesGreatest o x1 x2 ι = some res) : aM l yX5_casesGreatest cX5_casesGreatest 6 (some .long) rm_X5_casesGreatest (fun ad => [.ref (ad o), .int x1, .int x2]) (aG ι) (some (.long res.1)) (aG res.2) := by
  refine aM.of (by decide) (fun _ => Nat.le_of_ble_eq_true rfl) ?_
  intro p e s m args below meth c D dA ad adV A ls C hw hl
  have C : aX p m c cX5_casesGreatest 6 s args aTs RX5 meth (some .long) := C
  have hx := C.1.1
  have hb := C.1.2.1
  have hml := C.1.2.2.1
  have hown := C.1.2.2.2.1
  have hts := C.1.2.2.2.2
  have hl : lv_has ls 6 [(0, .ref (ad o)), (1, .int x1), (2, .int x2)] := hl
  unfold m_X5_casesGreatest at hM
  refine lv_lconst (v := (1 : Int64)) hx hb dX5_casesGreatest_0 (by decide) ?_
  refine lv_lstore_n (lv' := [(3, .long (1 : Int64)), (0, .ref (ad o)), (1, .int x1), (2, .int x2)]) hx hb dX5_casesGreatest_1 rfl hl (by decide) rfl (fun ls hl => ?_)
  refine lv_iconst (v := (0 : Int32)) hx hb dX5_casesGreatest_2 (by decide) ?_
  refine lv_istore (lv' := [(5, .int (0 : Int32)), (3, .long (1 : Int64)), (0, .ref (ad o)), (1, .int x1), (2, .int x2)]) hx hb dX5_casesGreatest_3 hl (by decide) rfl (fun ls hl => ?_)
  exact tl_X5_casesGreatest_5 l C ho aF (x1) (x2) ((1 : Int64)) ((0 : Int32)) hM hw (lv_sub hl [2, 3, 4, 1, 0] rfl)
def rm_X5_casesAtOnce : Room := { frames := 4, cells := 0, slots := 0, locals := 97 }
set_option maxHeartbeats 4000000 in
set_option maxRecDepth 100000 in
theorem tl_X5_casesAtOnce_9 (l : Launch) {p : Program} {e : Env} {s : State} {m : MethodId} {args : Array Value} {below : List Frame} {meth : Method} {c : Code} {D : va_G} {dA : Nat → ClassId} {ad adV : Nat → Nat} {A : Nat → Prop} (C : aX p m c cX5_casesAtOnce 6 s args aTs RX5 meth (some .long)) {o : Nat} (ho : aWit o = true) {res : Int64 × iS} : ∀ (n : Nat) (y1 : Int32) (y2 : Int64) (y4 : Int32) {ι : iS}, l_X5_casesAtOnce_9 o n y1 y2 y4 ι = some res → ∀ {H : Heap} {locs : List Loc} {ls : Array Slot}, aW D dA ad adV (aG ι) A s H locs → lv_has ls 6 [(0, .ref (ad o)), (1, .int y1), (2, .long y2), (4, .int y4)] → W p l e rm_X5_casesAtOnce s m args below meth c H locs 0 0 (MQ below (aQ D dA ad (aG res.2) A (some (.long res.1))) args s 0 0 A) (F0 m 9 ls []) := by
  have hx := C.1.1
  have hb := C.1.2.1
  have hml := C.1.2.2.1
  have hown := C.1.2.2.2.1
  have hts := C.1.2.2.2.2
  intro n
  induction n with
  | zero => intro y1 y2 y4 ι hM; simp [l_X5_casesAtOnce_9] at hM
  | succ n ih =>
    intro y1 y2 y4 ι hM H locs ls hw hl
    rw [l_X5_casesAtOnce_9] at hM
    refine lv_iload hx hb dX5_casesAtOnce_9 (lv_at hl 3 rfl) ?_
    refine lv_aload_n hx hb dX5_casesAtOnce_11 rfl (lv_at hl 0 rfl) ?_
    refine a_geti (σ := aG ι) (o := o) (T := TX5) (N := 5) C wU_X5 hw (aWit_k ho).1 (by decide) rfl 3 (by decide) rfl wF_X5_22 dX5_casesAtOnce_12 ?_
    refine lv_icmp_gt (tgt := 54) hx hb dX5_casesAtOnce_15 (by decide) (fun hc => ?_) (fun hc => ?_)
    · replace hM := h_t hc hM
      refine lv_lload_n hx hb dX5_casesAtOnce_54 rfl (lv_at hl 2 rfl) ?_
      cases h_e hM
      exact a_lret C hw dX5_casesAtOnce_55
    · replace hM := h_f hc hM
      refine lv_aload_n hx hb dX5_casesAtOnce_18 rfl (lv_at hl 0 rfl) ?_
      refine a_getp (q := (o + 1)) (σ := aG ι) (o := o) (T := TX5) (N := 5) C wU_X5 hw (aWit_k ho).1 (by decide) rfl 1 (by decide) rfl wF_X5_15 (aWit_p ho ι) dX5_casesAtOnce_19 ?_
      refine lv_iload_n hx hb dX5_casesAtOnce_22 rfl (lv_at hl 1 rfl) ?_
      obtain ⟨hi, hM⟩ := h_i hM
      refine a_iald (σ := aG ι) (o := (o + 1)) C hw (aWit_k ho).2 hi rfl dX5_casesAtOnce_23 ?_
      refine lv_iload hx hb dX5_casesAtOnce_24 (lv_at hl 3 rfl) ?_
      refine lv_iadd hx hb dX5_casesAtOnce_26 ?_
      refine lv_istore (lv' := [(5, .int ((gI ι (o + 1) y1.toNatClampNeg) + y4)), (0, .ref (ad o)), (1, .int y1), (2, .long y2), (4, .int y4)]) hx hb dX5_casesAtOnce_27 hl (by decide) rfl (fun ls hl => ?_)
      refine lv_iload hx hb dX5_casesAtOnce_29 (lv_at hl 0 rfl) ?_
      refine lv_aload_n hx hb dX5_casesAtOnce_31 rfl (lv_at hl 1 rfl) ?_
      refine a_geti (σ := aG ι) (o := o) (T := TX5) (N := 5) C wU_X5 hw (aWit_k ho).1 (by decide) rfl 0 (by decide) rfl wF_X5_9 dX5_casesAtOnce_32 ?_
      refine lv_icmp_lt (tgt := 48) hx hb dX5_casesAtOnce_35 (by decide) (fun hc => ?_) (fun hc => ?_)
      · replace hM := h_t hc hM
        refine lv_iinc (v := (y4 + 1)) (lv' := [(4, .int (y4 + 1)), (5, .int ((gI ι (o + 1) y1.toNatClampNeg) + y4)), (0, .ref (ad o)), (1, .int y1), (2, .long y2)]) hx hb dX5_casesAtOnce_48 hl (k := 4) rfl rfl (by decide) rfl (fun ls hl => ?_)
        refine lv_goto (tgt := 9) hx hb dX5_casesAtOnce_51 (by decide) ?_
        exact ih (y1) (y2) ((y4 + 1)) hM hw (lv_sub hl [2, 3, 4, 0] rfl)
      · replace hM := h_f hc hM
        refine lv_lload_n hx hb dX5_casesAtOnce_38 rfl (lv_at hl 3 rfl) ?_
        refine lv_aload_n hx hb dX5_casesAtOnce_39 rfl (lv_at hl 1 rfl) ?_
        refine lv_iload_n hx hb dX5_casesAtOnce_40 rfl (lv_at hl 2 rfl) ?_
        refine lv_iload hx hb dX5_casesAtOnce_41 (lv_at hl 0 rfl) ?_
        obtain ⟨r43, hr43, hM⟩ := h_b hM
        refine a_callV (σ' := aG r43.2) (v := (some (.long r43.1))) (As := fun ad => [.int y1, .int ((gI ι (o + 1) y1.toNatClampNeg) + y4)]) (rest := [.long y2]) (o := o) C hw (c_X5_casesGreatest l (ho) hr43) k_X5_casesGreatest wM_X5_60 ⟨⟨rfl, rfl⟩, ⟨Nat.le_of_ble_eq_true rfl, Nat.le_of_ble_eq_true rfl⟩⟩ (aWit_k ho).1 (by decide) rfl rfl rfl hl rfl (Nat.le_of_ble_eq_true rfl) dX5_casesAtOnce_43 ⟨Nat.zero_le _, Nat.zero_le _⟩ (fun H locs hw => ?_)
        refine lv_ladd hx hb dX5_casesAtOnce_46 ?_
        refine lv_lstore_n (lv' := [(2, .long (y2 + r43.1)), (5, .int ((gI ι (o + 1) y1.toNatClampNeg) + y4)), (0, .ref (ad o)), (1, .int y1), (4, .int y4)]) hx hb dX5_casesAtOnce_47 rfl hl (by decide) rfl (fun ls hl => ?_)
        refine lv_iinc (v := (y4 + 1)) (lv' := [(4, .int (y4 + 1)), (2, .long (y2 + r43.1)), (5, .int ((gI ι (o + 1) y1.toNatClampNeg) + y4)), (0, .ref (ad o)), (1, .int y1)]) hx hb dX5_casesAtOnce_48 hl (k := 4) rfl rfl (by decide) rfl (fun ls hl => ?_)
        refine lv_goto (tgt := 9) hx hb dX5_casesAtOnce_51 (by decide) ?_
        exact ih (y1) ((y2 + r43.1)) ((y4 + 1)) hM hw (lv_sub hl [3, 4, 1, 0] rfl)
theorem k_X5_casesAtOnce : aCal RX5 yX5_casesAtOnce cX5_casesAtOnce 6 (some .long) 1 := ⟨wI_yX5_casesAtOnce, wE_yX5_casesAtOnce, wZ_X5, wC_yX5_casesAtOnce, by decide +kernel⟩
set_option maxHeartbeats 4000000 in
set_option maxRecDepth 100000 in
theorem c_X5_casesAtOnce (l : Launch) {o : Nat} {x1 : Int32} (ho : aWit o = true) {ι : iS} {res : Int64 × iS} (hM : m_X5_casesAtOnce o x1 ι = some res) : aM l yX5_casesAtOnce cX5_casesAtOnce 6 (some .long) rm_X5_casesAtOnce (fun ad => [.ref (ad o), .int x1]) (aG ι) (some (.long res.1)) (aG res.2) := by
  refine aM.of (by decide) (fun _ => Nat.le_of_ble_eq_true rfl) ?_
  intro p e s m args below meth c D dA ad adV A ls C hw hl
  have C : aX p m c cX5_casesAtOnce 6 s args aTs RX5 meth (some .long) := C
  have hx := C.1.1
  have hb := C.1.2.1
  have hml := C.1.2.2.1
  have hown := C.1.2.2.2.1
  have hts := C.1.2.2.2.2
  have hl : lv_has ls 6 [(0, .ref (ad o)), (1, .int x1)] := hl
  unfold m_X5_casesAtOnce at hM
  refine lv_lconst (v := (0 : Int64)) hx hb dX5_casesAtOnce_0 (by decide) ?_
  refine lv_lstore_n (lv' := [(2, .long (0 : Int64)), (0, .ref (ad o)), (1, .int x1)]) hx hb dX5_casesAtOnce_1 rfl hl (by decide) rfl (fun ls hl => ?_)
  refine lv_aload_n hx hb dX5_casesAtOnce_2 rfl (lv_at hl 1 rfl) ?_
  refine a_geti (σ := aG ι) (o := o) (T := TX5) (N := 5) C wU_X5 hw (aWit_k ho).1 (by decide) rfl 3 (by decide) rfl wF_X5_22 dX5_casesAtOnce_3 ?_
  refine lv_ineg hx hb dX5_casesAtOnce_6 ?_
  refine lv_istore (lv' := [(4, .int (-(gI ι o 3))), (2, .long (0 : Int64)), (0, .ref (ad o)), (1, .int x1)]) hx hb dX5_casesAtOnce_7 hl (by decide) rfl (fun ls hl => ?_)
  exact tl_X5_casesAtOnce_9 l C ho aF (x1) ((0 : Int64)) ((-(gI ι o 3))) hM hw (lv_sub hl [2, 3, 1, 0] rfl)
def rm_X5_casesOneByOne : Room := { frames := 4, cells := 0, slots := 0, locals := 96 }
theorem k_X5_casesOneByOne : aCal RX5 yX5_casesOneByOne cX5_casesOneByOne 4 (some .long) 1 := ⟨wI_yX5_casesOneByOne, wE_yX5_casesOneByOne, wZ_X5, wC_yX5_casesOneByOne, by decide +kernel⟩
set_option maxHeartbeats 4000000 in
set_option maxRecDepth 100000 in
theorem c_X5_casesOneByOne (l : Launch) {o : Nat} {x1 : Int32} (ho : aWit o = true) {ι : iS} {res : Int64 × iS} (hM : m_X5_casesOneByOne o x1 ι = some res) : aM l yX5_casesOneByOne cX5_casesOneByOne 4 (some .long) rm_X5_casesOneByOne (fun ad => [.ref (ad o), .int x1]) (aG ι) (some (.long res.1)) (aG res.2) := by
  refine aM.of (by decide) (fun _ => Nat.le_of_ble_eq_true rfl) ?_
  intro p e s m args below meth c D dA ad adV A ls C hw hl
  have C : aX p m c cX5_casesOneByOne 4 s args aTs RX5 meth (some .long) := C
  have hx := C.1.1
  have hb := C.1.2.1
  have hml := C.1.2.2.1
  have hown := C.1.2.2.2.1
  have hts := C.1.2.2.2.2
  have hl : lv_has ls 4 [(0, .ref (ad o)), (1, .int x1)] := hl
  unfold m_X5_casesOneByOne at hM
  refine lv_aload_n hx hb dX5_casesOneByOne_0 rfl (lv_at hl 0 rfl) ?_
  refine a_geti (σ := aG ι) (o := o) (T := TX5) (N := 5) C wU_X5 hw (aWit_k ho).1 (by decide) rfl 4 (by decide) rfl wF_X5_25 dX5_casesOneByOne_1 ?_
  refine lv_aload_n hx hb dX5_casesOneByOne_4 rfl (lv_at hl 0 rfl) ?_
  refine lv_iload_n hx hb dX5_casesOneByOne_5 rfl (lv_at hl 1 rfl) ?_
  refine lv_aload_n hx hb dX5_casesOneByOne_6 rfl (lv_at hl 0 rfl) ?_
  refine a_geti (σ := aG ι) (o := o) (T := TX5) (N := 5) C wU_X5 hw (aWit_k ho).1 (by decide) rfl 0 (by decide) rfl wF_X5_9 dX5_casesOneByOne_7 ?_
  obtain ⟨r10, hr10, hM⟩ := h_b hM
  refine a_callV (σ' := aG r10.2) (v := (some (.int r10.1))) (As := fun ad => [.int x1, .int (gI ι o 0)]) (rest := [.int (gI ι o 4)]) (o := o) C hw (c_X5_casesBelow l (ho) hr10) k_X5_casesBelow wM_X5_56 ⟨⟨rfl, rfl⟩, ⟨Nat.le_of_ble_eq_true rfl, Nat.le_of_ble_eq_true rfl⟩⟩ (aWit_k ho).1 (by decide) rfl rfl rfl hl rfl (Nat.le_of_ble_eq_true rfl) dX5_casesOneByOne_10 ⟨Nat.zero_le _, Nat.zero_le _⟩ (fun H locs hw => ?_)
  refine lv_isub hx hb dX5_casesOneByOne_13 ?_
  refine lv_i2l hx hb dX5_casesOneByOne_14 rfl ?_
  refine lv_lstore_n (lv' := [(2, .long (((gI ι o 4) - r10.1)).toInt64), (0, .ref (ad o)), (1, .int x1)]) hx hb dX5_casesOneByOne_15 rfl hl (by decide) rfl (fun ls hl => ?_)
  refine lv_aload_n hx hb dX5_casesOneByOne_16 rfl (lv_at hl 1 rfl) ?_
  refine lv_iload_n hx hb dX5_casesOneByOne_17 rfl (lv_at hl 2 rfl) ?_
  obtain ⟨r18, hr18, hM⟩ := h_b hM
  refine a_callV (σ' := aG r18.2) (v := (some (.long r18.1))) (As := fun ad => [.int x1]) (rest := []) (o := o) C hw (c_X5_casesAllBelow l (ho) hr18) k_X5_casesAllBelow wM_X5_47 ⟨⟨rfl, rfl⟩, ⟨Nat.le_of_ble_eq_true rfl, Nat.le_of_ble_eq_true rfl⟩⟩ (aWit_k ho).1 (by decide) rfl rfl rfl hl rfl (Nat.le_of_ble_eq_true rfl) dX5_casesOneByOne_18 ⟨Nat.zero_le _, Nat.zero_le _⟩ (fun H locs hw => ?_)
  refine lv_lload_n hx hb dX5_casesOneByOne_21 rfl (lv_at hl 0 rfl) ?_
  refine lv_lmul hx hb dX5_casesOneByOne_22 ?_
  refine lv_aload_n hx hb dX5_casesOneByOne_23 rfl (lv_at hl 1 rfl) ?_
  refine lv_aload_n hx hb dX5_casesOneByOne_24 rfl (lv_at hl 1 rfl) ?_
  refine a_geti (σ := aG r18.2) (o := o) (T := TX5) (N := 5) C wU_X5 hw (aWit_k ho).1 (by decide) rfl 2 (by decide) rfl wF_X5_19 dX5_casesOneByOne_25 ?_
  refine lv_iload_n hx hb dX5_casesOneByOne_28 rfl (lv_at hl 2 rfl) ?_
  refine lv_isub hx hb dX5_casesOneByOne_29 ?_
  refine lv_iconst (v := (1 : Int32)) hx hb dX5_casesOneByOne_30 (by decide) ?_
  refine lv_isub hx hb dX5_casesOneByOne_31 ?_
  obtain ⟨r32, hr32, hM⟩ := h_b hM
  refine a_callV (σ' := aG r32.2) (v := (some (.long r32.1))) (As := fun ad => [.int (((gI r18.2 o 2) - x1) - (1 : Int32))]) (rest := [.long (r18.1 * (((gI ι o 4) - r10.1)).toInt64)]) (o := o) C hw (c_X5_power l (ho) hr32) k_X5_power wM_X5_43 ⟨⟨rfl, rfl⟩, ⟨Nat.le_of_ble_eq_true rfl, Nat.le_of_ble_eq_true rfl⟩⟩ (aWit_k ho).1 (by decide) rfl rfl rfl hl rfl (Nat.le_of_ble_eq_true rfl) dX5_casesOneByOne_32 ⟨Nat.zero_le _, Nat.zero_le _⟩ (fun H locs hw => ?_)
  refine lv_lmul hx hb dX5_casesOneByOne_35 ?_
  cases h_e hM
  exact a_lret C hw dX5_casesOneByOne_36
def rm_X5_casesOf : Room := { frames := 5, cells := 0, slots := 0, locals := 122 }
theorem k_X5_casesOf : aCal RX5 yX5_casesOf cX5_casesOf 3 (some .long) 2 := ⟨wI_yX5_casesOf, wE_yX5_casesOf, wZ_X5, wC_yX5_casesOf, by decide +kernel⟩
set_option maxHeartbeats 4000000 in
set_option maxRecDepth 100000 in
theorem c_X5_casesOf (l : Launch) {o : Nat} {x1 : Int32} {x2 : Int32} (ho : aWit o = true) {ι : iS} {res : Int64 × iS} (hM : m_X5_casesOf o x1 x2 ι = some res) : aM l yX5_casesOf cX5_casesOf 3 (some .long) rm_X5_casesOf (fun ad => [.ref (ad o), .int x1, .int x2]) (aG ι) (some (.long res.1)) (aG res.2) := by
  refine aM.of (by decide) (fun _ => Nat.le_of_ble_eq_true rfl) ?_
  intro p e s m args below meth c D dA ad adV A ls C hw hl
  have C : aX p m c cX5_casesOf 3 s args aTs RX5 meth (some .long) := C
  have hx := C.1.1
  have hb := C.1.2.1
  have hml := C.1.2.2.1
  have hown := C.1.2.2.2.1
  have hts := C.1.2.2.2.2
  have hl : lv_has ls 3 [(0, .ref (ad o)), (1, .int x1), (2, .int x2)] := hl
  unfold m_X5_casesOf at hM
  refine lv_iload_n hx hb dX5_casesOf_0 rfl (lv_at hl 2 rfl) ?_
  refine lv_if_lt (tgt := 12) hx hb dX5_casesOf_1 (by decide) (fun hc => ?_) (fun hc => ?_)
  · replace hM := h_t hc hM
    refine lv_lconst (v := (0 : Int64)) hx hb dX5_casesOf_12 (by decide) ?_
    cases h_e hM
    exact a_lret C hw dX5_casesOf_13
  · replace hM := h_f hc hM
    refine lv_iload_n hx hb dX5_casesOf_4 rfl (lv_at hl 2 rfl) ?_
    refine lv_aload_n hx hb dX5_casesOf_5 rfl (lv_at hl 0 rfl) ?_
    refine a_geti (σ := aG ι) (o := o) (T := TX5) (N := 5) C wU_X5 hw (aWit_k ho).1 (by decide) rfl 2 (by decide) rfl wF_X5_19 dX5_casesOf_6 ?_
    refine lv_icmp_lt (tgt := 14) hx hb dX5_casesOf_9 (by decide) (fun hc => ?_) (fun hc => ?_)
    · replace hM := h_t hc hM
      refine lv_iload_n hx hb dX5_casesOf_14 rfl (lv_at hl 1 rfl) ?_
      refine lv_if_ne (tgt := 26) hx hb dX5_casesOf_15 (by decide) (fun hc => ?_) (fun hc => ?_)
      · replace hM := h_f hc hM
        refine lv_aload_n hx hb dX5_casesOf_26 rfl (lv_at hl 0 rfl) ?_
        refine lv_iload_n hx hb dX5_casesOf_27 rfl (lv_at hl 2 rfl) ?_
        obtain ⟨r28, hr28, hM⟩ := h_b hM
        refine a_callV (σ' := aG r28.2) (v := (some (.long r28.1))) (As := fun ad => [.int x2]) (rest := []) (o := o) C hw (c_X5_casesAtOnce l (ho) hr28) k_X5_casesAtOnce wM_X5_53 ⟨⟨rfl, rfl⟩, ⟨Nat.le_of_ble_eq_true rfl, Nat.le_of_ble_eq_true rfl⟩⟩ (aWit_k ho).1 (by decide) rfl rfl rfl hl rfl (Nat.le_of_ble_eq_true rfl) dX5_casesOf_28 ⟨Nat.zero_le _, Nat.zero_le _⟩ (fun H locs hw => ?_)
        cases h_e hM
        exact a_lret C hw dX5_casesOf_31
      · replace hM := h_t hc hM
        refine lv_aload_n hx hb dX5_casesOf_18 rfl (lv_at hl 0 rfl) ?_
        refine lv_iload_n hx hb dX5_casesOf_19 rfl (lv_at hl 2 rfl) ?_
        obtain ⟨r20, hr20, hM⟩ := h_b hM
        refine a_callV (σ' := aG r20.2) (v := (some (.long r20.1))) (As := fun ad => [.int x2]) (rest := []) (o := o) C hw (c_X5_casesOneByOne l (ho) hr20) k_X5_casesOneByOne wM_X5_50 ⟨⟨rfl, rfl⟩, ⟨Nat.le_of_ble_eq_true rfl, Nat.le_of_ble_eq_true rfl⟩⟩ (aWit_k ho).1 (by decide) rfl rfl rfl hl rfl (Nat.le_of_ble_eq_true rfl) dX5_casesOf_20 ⟨Nat.zero_le _, Nat.zero_le _⟩ (fun H locs hw => ?_)
        refine lv_goto (tgt := 31) hx hb dX5_casesOf_23 (by decide) ?_
        cases h_e hM
        exact a_lret C hw dX5_casesOf_31
    · replace hM := h_f hc hM
      refine lv_lconst (v := (0 : Int64)) hx hb dX5_casesOf_12 (by decide) ?_
      cases h_e hM
      exact a_lret C hw dX5_casesOf_13
def rm_X5_casesOfNobody : Room := { frames := 4, cells := 0, slots := 0, locals := 96 }
theorem k_X5_casesOfNobody : aCal RX5 yX5_casesOfNobody cX5_casesOfNobody 1 (some .long) 0 := ⟨wI_yX5_casesOfNobody, wE_yX5_casesOfNobody, wZ_X5, wC_yX5_casesOfNobody, by decide +kernel⟩
set_option maxHeartbeats 4000000 in
set_option maxRecDepth 100000 in
theorem c_X5_casesOfNobody (l : Launch) {o : Nat} (ho : aWit o = true) {ι : iS} {res : Int64 × iS} (hM : m_X5_casesOfNobody o ι = some res) : aM l yX5_casesOfNobody cX5_casesOfNobody 1 (some .long) rm_X5_casesOfNobody (fun ad => [.ref (ad o)]) (aG ι) (some (.long res.1)) (aG res.2) := by
  refine aM.of (by decide) (fun _ => Nat.le_of_ble_eq_true rfl) ?_
  intro p e s m args below meth c D dA ad adV A ls C hw hl
  have C : aX p m c cX5_casesOfNobody 1 s args aTs RX5 meth (some .long) := C
  have hx := C.1.1
  have hb := C.1.2.1
  have hml := C.1.2.2.1
  have hown := C.1.2.2.2.1
  have hts := C.1.2.2.2.2
  have hl : lv_has ls 1 [(0, .ref (ad o))] := hl
  unfold m_X5_casesOfNobody at hM
  refine lv_aload_n hx hb dX5_casesOfNobody_0 rfl (lv_at hl 0 rfl) ?_
  refine lv_aload_n hx hb dX5_casesOfNobody_1 rfl (lv_at hl 0 rfl) ?_
  refine a_geti (σ := aG ι) (o := o) (T := TX5) (N := 5) C wU_X5 hw (aWit_k ho).1 (by decide) rfl 2 (by decide) rfl wF_X5_19 dX5_casesOfNobody_2 ?_
  obtain ⟨r5, hr5, hM⟩ := h_b hM
  refine a_callV (σ' := aG r5.2) (v := (some (.long r5.1))) (As := fun ad => [.int (gI ι o 2)]) (rest := []) (o := o) C hw (c_X5_casesAllBelow l (ho) hr5) k_X5_casesAllBelow wM_X5_47 ⟨⟨rfl, rfl⟩, ⟨Nat.le_of_ble_eq_true rfl, Nat.le_of_ble_eq_true rfl⟩⟩ (aWit_k ho).1 (by decide) rfl rfl rfl hl rfl (Nat.le_of_ble_eq_true rfl) dX5_casesOfNobody_5 ⟨Nat.zero_le _, Nat.zero_le _⟩ (fun H locs hw => ?_)
  cases h_e hM
  exact a_lret C hw dX5_casesOfNobody_8
def rm_X5_allCases : Room := { frames := 1, cells := 0, slots := 0, locals := 24 }
theorem k_X5_allCases : aCal RX5 yX5_allCases cX5_allCases 1 (some .long) 0 := ⟨wI_yX5_allCases, wE_yX5_allCases, wZ_X5, wC_yX5_allCases, by decide +kernel⟩
set_option maxHeartbeats 4000000 in
set_option maxRecDepth 100000 in
theorem c_X5_allCases (l : Launch) {o : Nat} (ho : aWit o = true) {ι : iS} {res : Int64 × iS} (hM : m_X5_allCases o ι = some res) : aM l yX5_allCases cX5_allCases 1 (some .long) rm_X5_allCases (fun ad => [.ref (ad o)]) (aG ι) (some (.long res.1)) (aG res.2) := by
  refine aM.of (by decide) (fun _ => Nat.le_of_ble_eq_true rfl) ?_
  intro p e s m args below meth c D dA ad adV A ls C hw hl
  have C : aX p m c cX5_allCases 1 s args aTs RX5 meth (some .long) := C
  have hx := C.1.1
  have hb := C.1.2.1
  have hml := C.1.2.2.1
  have hown := C.1.2.2.2.1
  have hts := C.1.2.2.2.2
  have hl : lv_has ls 1 [(0, .ref (ad o))] := hl
  unfold m_X5_allCases at hM
  refine lv_aload_n hx hb dX5_allCases_0 rfl (lv_at hl 0 rfl) ?_
  refine lv_aload_n hx hb dX5_allCases_1 rfl (lv_at hl 0 rfl) ?_
  refine a_geti (σ := aG ι) (o := o) (T := TX5) (N := 5) C wU_X5 hw (aWit_k ho).1 (by decide) rfl 2 (by decide) rfl wF_X5_19 dX5_allCases_2 ?_
  obtain ⟨r5, hr5, hM⟩ := h_b hM
  refine a_callV (σ' := aG r5.2) (v := (some (.long r5.1))) (As := fun ad => [.int (gI ι o 2)]) (rest := []) (o := o) C hw (c_X5_power l (ho) hr5) k_X5_power wM_X5_43 ⟨⟨rfl, rfl⟩, ⟨Nat.le_of_ble_eq_true rfl, Nat.le_of_ble_eq_true rfl⟩⟩ (aWit_k ho).1 (by decide) rfl rfl rfl hl rfl (Nat.le_of_ble_eq_true rfl) dX5_allCases_5 ⟨Nat.zero_le _, Nat.zero_le _⟩ (fun H locs hw => ?_)
  cases h_e hM
  exact a_lret C hw dX5_allCases_8
def rm_X5_look : Room := { frames := 1, cells := 0, slots := 0, locals := 22 }
set_option maxHeartbeats 4000000 in
set_option maxRecDepth 100000 in
theorem tl_X5_look_43 (l : Launch) {p : Program} {e : Env} {s : State} {m : MethodId} {args : Array Value} {below : List Frame} {meth : Method} {c : Code} {D : va_G} {dA : Nat → ClassId} {ad adV : Nat → Nat} {A : Nat → Prop} (C : aX p m c cX5_look 7 s args aTs RX5 meth none) {o : Nat} {x1 : Nat} (ho : aWit o = true) (hx1 : aLin x1 = true) {res : iS} : ∀ (n : Nat) (y2 : Int32) (y3 : Int32) (y4 : Int32) {ι : iS}, l_X5_look_43 o x1 n y2 y3 y4 ι = some res → ∀ {H : Heap} {locs : List Loc} {ls : Array Slot}, aW D dA ad adV (aG ι) A s H locs → lv_has ls 7 [(0, .ref (ad o)), (1, .ref (ad x1)), (2, .int y2), (3, .int y3), (4, .int y4)] → W p l e rm_X5_look s m args below meth c H locs 0 0 (MQ below (aQ D dA ad (aG res) A none) args s 0 0 A) (F0 m 43 ls []) := by
  have hx := C.1.1
  have hb := C.1.2.1
  have hml := C.1.2.2.1
  have hown := C.1.2.2.2.1
  have hts := C.1.2.2.2.2
  intro n
  induction n with
  | zero => intro y2 y3 y4 ι hM; simp [l_X5_look_43] at hM
  | succ n ih =>
    intro y2 y3 y4 ι hM H locs ls hw hl
    rw [l_X5_look_43] at hM
    refine lv_iload hx hb dX5_look_43 (lv_at hl 4 rfl) ?_
    refine lv_aload_n hx hb dX5_look_45 rfl (lv_at hl 0 rfl) ?_
    refine a_geti (σ := aG ι) (o := o) (T := TX5) (N := 5) C wU_X5 hw (aWit_k ho).1 (by decide) rfl 2 (by decide) rfl wF_X5_19 dX5_look_46 ?_
    refine lv_icmp_ge (tgt := 105) hx hb dX5_look_49 (by decide) (fun hc => ?_) (fun hc => ?_)
    · replace hM := h_t hc hM
      cases h_e hM
      exact a_vret C hw dX5_look_105
    · replace hM := h_f hc hM
      refine lv_aload_n hx hb dX5_look_52 rfl (lv_at hl 1 rfl) ?_
      refine a_getp (q := (x1 + 5)) (σ := aG ι) (o := x1) (T := TX2) (N := 11) C wU_X2 hw (aLin_k hx1).1 (by decide) rfl 7 (by decide) rfl wF_X5_36 (aLin_p hx1 ι 4 (by decide)) dX5_look_53 ?_
      refine lv_iload hx hb dX5_look_56 (lv_at hl 4 rfl) ?_
      obtain ⟨hi, hM⟩ := h_i hM
      refine a_iald (σ := aG ι) (o := (x1 + 5)) C hw (aLin_k hx1).2.2.2.2.2.1 hi rfl dX5_look_58 ?_
      refine lv_istore (lv' := [(5, .int (gI ι (x1 + 5) y4.toNatClampNeg)), (0, .ref (ad o)), (1, .ref (ad x1)), (2, .int y2), (3, .int y3), (4, .int y4)]) hx hb dX5_look_59 hl (by decide) rfl (fun ls hl => ?_)
      refine lv_iload hx hb dX5_look_61 (lv_at hl 0 rfl) ?_
      refine lv_if_ne (tgt := 79) hx hb dX5_look_63 (by decide) (fun hc => ?_) (fun hc => ?_)
      · replace hM := h_f hc hM
        refine lv_iconst (v := (0 : Int32)) hx hb dX5_look_79 (by decide) ?_
        refine lv_istore (lv' := [(6, .int (0 : Int32)), (5, .int (gI ι (x1 + 5) y4.toNatClampNeg)), (0, .ref (ad o)), (1, .ref (ad x1)), (2, .int y2), (3, .int y3), (4, .int y4)]) hx hb dX5_look_80 hl (by decide) rfl (fun ls hl => ?_)
        refine lv_aload_n hx hb dX5_look_82 rfl (lv_at hl 2 rfl) ?_
        refine a_getp (q := (o + 1)) (σ := aG ι) (o := o) (T := TX5) (N := 5) C wU_X5 hw (aWit_k ho).1 (by decide) rfl 1 (by decide) rfl wF_X5_15 (aWit_p ho ι) dX5_look_83 ?_
        refine lv_iload hx hb dX5_look_86 (lv_at hl 6 rfl) ?_
        refine lv_aload_n hx hb dX5_look_88 rfl (lv_at hl 3 rfl) ?_
        refine lv_iload hx hb dX5_look_89 (lv_at hl 1 rfl) ?_
        refine lv_iload_n hx hb dX5_look_91 rfl (lv_at hl 4 rfl) ?_
        obtain ⟨r92, hr92, hM⟩ := h_b hM
        refine a_callV (σ' := aG r92.2) (v := (some (.int r92.1))) (As := fun ad => [.int (gI ι (x1 + 5) y4.toNatClampNeg), .int y2]) (rest := [.int y4, .ref (ad (o + 1))]) (o := x1) C hw (c_X2_matchOf l (hx1) hr92) k_X2_matchOf wM_X5_39 ⟨⟨rfl, rfl⟩, ⟨Nat.le_of_ble_eq_true rfl, Nat.le_of_ble_eq_true rfl⟩⟩ (aLin_k hx1).1 (by decide) rfl rfl rfl hl rfl (Nat.le_of_ble_eq_true rfl) dX5_look_92 ⟨Nat.zero_le _, Nat.zero_le _⟩ (fun H locs hw => ?_)
        refine lv_iload hx hb dX5_look_95 (lv_at hl 0 rfl) ?_
        refine lv_iadd hx hb dX5_look_97 ?_
        obtain ⟨hi, hM⟩ := h_i hM
        refine a_iast (σ := aG r92.2) (o := (o + 1)) C hw (aWit_k ho).2 hi rfl dX5_look_98 (fun H locs hw => ?_)
        have hw : aW D dA ad adV (aG (pI r92.2 (o + 1) y4.toNatClampNeg (r92.1 + (0 : Int32)))) A s H locs := hw
        refine lv_iinc (v := (y4 + 1)) (lv' := [(4, .int (y4 + 1)), (6, .int (0 : Int32)), (5, .int (gI ι (x1 + 5) y4.toNatClampNeg)), (0, .ref (ad o)), (1, .ref (ad x1)), (2, .int y2), (3, .int y3)]) hx hb dX5_look_99 hl (k := 6) rfl rfl (by decide) rfl (fun ls hl => ?_)
        refine lv_goto (tgt := 43) hx hb dX5_look_102 (by decide) ?_
        exact ih (y2) (y3) ((y4 + 1)) hM hw (lv_sub hl [3, 4, 5, 6, 0] rfl)
      · replace hM := h_t hc hM
        refine lv_iload_n hx hb dX5_look_66 rfl (lv_at hl 4 rfl) ?_
        refine lv_if_ne (tgt := 79) hx hb dX5_look_67 (by decide) (fun hc => ?_) (fun hc => ?_)
        · replace hM := h_f hc hM
          refine lv_iconst (v := (0 : Int32)) hx hb dX5_look_79 (by decide) ?_
          refine lv_istore (lv' := [(6, .int (0 : Int32)), (5, .int (gI ι (x1 + 5) y4.toNatClampNeg)), (0, .ref (ad o)), (1, .ref (ad x1)), (2, .int y2), (3, .int y3), (4, .int y4)]) hx hb dX5_look_80 hl (by decide) rfl (fun ls hl => ?_)
          refine lv_aload_n hx hb dX5_look_82 rfl (lv_at hl 2 rfl) ?_
          refine a_getp (q := (o + 1)) (σ := aG ι) (o := o) (T := TX5) (N := 5) C wU_X5 hw (aWit_k ho).1 (by decide) rfl 1 (by decide) rfl wF_X5_15 (aWit_p ho ι) dX5_look_83 ?_
          refine lv_iload hx hb dX5_look_86 (lv_at hl 6 rfl) ?_
          refine lv_aload_n hx hb dX5_look_88 rfl (lv_at hl 3 rfl) ?_
          refine lv_iload hx hb dX5_look_89 (lv_at hl 1 rfl) ?_
          refine lv_iload_n hx hb dX5_look_91 rfl (lv_at hl 4 rfl) ?_
          obtain ⟨r92, hr92, hM⟩ := h_b hM
          refine a_callV (σ' := aG r92.2) (v := (some (.int r92.1))) (As := fun ad => [.int (gI ι (x1 + 5) y4.toNatClampNeg), .int y2]) (rest := [.int y4, .ref (ad (o + 1))]) (o := x1) C hw (c_X2_matchOf l (hx1) hr92) k_X2_matchOf wM_X5_39 ⟨⟨rfl, rfl⟩, ⟨Nat.le_of_ble_eq_true rfl, Nat.le_of_ble_eq_true rfl⟩⟩ (aLin_k hx1).1 (by decide) rfl rfl rfl hl rfl (Nat.le_of_ble_eq_true rfl) dX5_look_92 ⟨Nat.zero_le _, Nat.zero_le _⟩ (fun H locs hw => ?_)
          refine lv_iload hx hb dX5_look_95 (lv_at hl 0 rfl) ?_
          refine lv_iadd hx hb dX5_look_97 ?_
          obtain ⟨hi, hM⟩ := h_i hM
          refine a_iast (σ := aG r92.2) (o := (o + 1)) C hw (aWit_k ho).2 hi rfl dX5_look_98 (fun H locs hw => ?_)
          have hw : aW D dA ad adV (aG (pI r92.2 (o + 1) y4.toNatClampNeg (r92.1 + (0 : Int32)))) A s H locs := hw
          refine lv_iinc (v := (y4 + 1)) (lv' := [(4, .int (y4 + 1)), (6, .int (0 : Int32)), (5, .int (gI ι (x1 + 5) y4.toNatClampNeg)), (0, .ref (ad o)), (1, .ref (ad x1)), (2, .int y2), (3, .int y3)]) hx hb dX5_look_99 hl (k := 6) rfl rfl (by decide) rfl (fun ls hl => ?_)
          refine lv_goto (tgt := 43) hx hb dX5_look_102 (by decide) ?_
          exact ih (y2) (y3) ((y4 + 1)) hM hw (lv_sub hl [3, 4, 5, 6, 0] rfl)
        · replace hM := h_t hc hM
          refine lv_aload_n hx hb dX5_look_70 rfl (lv_at hl 2 rfl) ?_
          refine a_getp (q := (x1 + 4)) (σ := aG ι) (o := x1) (T := TX2) (N := 11) C wU_X2 hw (aLin_k hx1).1 (by decide) rfl 6 (by decide) rfl wF_X5_33 (aLin_p hx1 ι 3 (by decide)) dX5_look_71 ?_
          refine lv_iconst (v := (2 : Int32)) hx hb dX5_look_74 (by decide) ?_
          refine a_iald (σ := aG ι) (o := (x1 + 4)) C hw (aLin_k hx1).2.2.2.2.1 (aIn_v (by decide)) (show (2 : Int32).toNatClampNeg = 2 by decide) dX5_look_75 ?_
          refine lv_goto (tgt := 80) hx hb dX5_look_76 (by decide) ?_
          refine lv_istore (lv' := [(6, .int (gI ι (x1 + 4) 2)), (5, .int (gI ι (x1 + 5) y4.toNatClampNeg)), (0, .ref (ad o)), (1, .ref (ad x1)), (2, .int y2), (3, .int y3), (4, .int y4)]) hx hb dX5_look_80 hl (by decide) rfl (fun ls hl => ?_)
          refine lv_aload_n hx hb dX5_look_82 rfl (lv_at hl 2 rfl) ?_
          refine a_getp (q := (o + 1)) (σ := aG ι) (o := o) (T := TX5) (N := 5) C wU_X5 hw (aWit_k ho).1 (by decide) rfl 1 (by decide) rfl wF_X5_15 (aWit_p ho ι) dX5_look_83 ?_
          refine lv_iload hx hb dX5_look_86 (lv_at hl 6 rfl) ?_
          refine lv_aload_n hx hb dX5_look_88 rfl (lv_at hl 3 rfl) ?_
          refine lv_iload hx hb dX5_look_89 (lv_at hl 1 rfl) ?_
          refine lv_iload_n hx hb dX5_look_91 rfl (lv_at hl 4 rfl) ?_
          obtain ⟨r92, hr92, hM⟩ := h_b hM
          refine a_callV (σ' := aG r92.2) (v := (some (.int r92.1))) (As := fun ad => [.int (gI ι (x1 + 5) y4.toNatClampNeg), .int y2]) (rest := [.int y4, .ref (ad (o + 1))]) (o := x1) C hw (c_X2_matchOf l (hx1) hr92) k_X2_matchOf wM_X5_39 ⟨⟨rfl, rfl⟩, ⟨Nat.le_of_ble_eq_true rfl, Nat.le_of_ble_eq_true rfl⟩⟩ (aLin_k hx1).1 (by decide) rfl rfl rfl hl rfl (Nat.le_of_ble_eq_true rfl) dX5_look_92 ⟨Nat.zero_le _, Nat.zero_le _⟩ (fun H locs hw => ?_)
          refine lv_iload hx hb dX5_look_95 (lv_at hl 0 rfl) ?_
          refine lv_iadd hx hb dX5_look_97 ?_
          obtain ⟨hi, hM⟩ := h_i hM
          refine a_iast (σ := aG r92.2) (o := (o + 1)) C hw (aWit_k ho).2 hi rfl dX5_look_98 (fun H locs hw => ?_)
          have hw : aW D dA ad adV (aG (pI r92.2 (o + 1) y4.toNatClampNeg (r92.1 + (gI ι (x1 + 4) 2)))) A s H locs := hw
          refine lv_iinc (v := (y4 + 1)) (lv' := [(4, .int (y4 + 1)), (6, .int (gI ι (x1 + 4) 2)), (5, .int (gI ι (x1 + 5) y4.toNatClampNeg)), (0, .ref (ad o)), (1, .ref (ad x1)), (2, .int y2), (3, .int y3)]) hx hb dX5_look_99 hl (k := 6) rfl rfl (by decide) rfl (fun ls hl => ?_)
          refine lv_goto (tgt := 43) hx hb dX5_look_102 (by decide) ?_
          exact ih (y2) (y3) ((y4 + 1)) hM hw (lv_sub hl [3, 4, 5, 6, 0] rfl)
theorem k_X5_look : aCal RX5 yX5_look cX5_look 7 none 3 := ⟨wI_yX5_look, wE_yX5_look, wZ_X5, wC_yX5_look, by decide +kernel⟩
set_option maxHeartbeats 4000000 in
set_option maxRecDepth 100000 in
theorem c_X5_look (l : Launch) {o : Nat} {x1 : Nat} {x2 : Int32} {x3 : Int32} (ho : aWit o = true) (hx1 : aLin x1 = true) {ι : iS} {res : iS} (hM : m_X5_look o x1 x2 x3 ι = some res) : aM l yX5_look cX5_look 7 none rm_X5_look (fun ad => [.ref (ad o), .ref (ad x1), .int x2, .int x3]) (aG ι) none (aG res) := by
  refine aM.of (by decide) (fun _ => Nat.le_of_ble_eq_true rfl) ?_
  intro p e s m args below meth c D dA ad adV A ls C hw hl
  have C : aX p m c cX5_look 7 s args aTs RX5 meth none := C
  have hx := C.1.1
  have hb := C.1.2.1
  have hml := C.1.2.2.1
  have hown := C.1.2.2.2.1
  have hts := C.1.2.2.2.2
  have hl : lv_has ls 7 [(0, .ref (ad o)), (1, .ref (ad x1)), (2, .int x2), (3, .int x3)] := hl
  unfold m_X5_look at hM
  refine lv_aload_n hx hb dX5_look_0 rfl (lv_at hl 0 rfl) ?_
  refine lv_aload_n hx hb dX5_look_1 rfl (lv_at hl 1 rfl) ?_
  refine a_geti (σ := aG ι) (o := x1) (T := TX2) (N := 11) C wU_X2 hw (aLin_k hx1).1 (by decide) rfl 2 (by decide) rfl wF_X5_28 dX5_look_2 ?_
  refine a_puti (ty := .int) (σ := aG ι) (o := o) (T := TX5) (N := 5) (ty0 := tyX5) C wU_X5 tyX5_ok nmX5 hw (aWit_k ho).1 (by decide) rfl 2 (by decide) rfl wF_X5_19 rfl (by decide +kernel) rfl rfl dX5_look_5 (fun H locs hw => ?_)
  have hw : aW D dA ad adV (aG (pI ι o 2 (gI ι x1 2))) A s H locs := hw
  refine lv_aload_n hx hb dX5_look_8 rfl (lv_at hl 0 rfl) ?_
  refine lv_aload_n hx hb dX5_look_9 rfl (lv_at hl 1 rfl) ?_
  refine a_getp (q := (x1 + 4)) (σ := aG (pI ι o 2 (gI ι x1 2))) (o := x1) (T := TX2) (N := 11) C wU_X2 hw (aLin_k hx1).1 (by decide) rfl 6 (by decide) rfl wF_X5_33 (aLin_p hx1 (pI ι o 2 (gI ι x1 2)) 3 (by decide)) dX5_look_10 ?_
  refine lv_iconst (v := (0 : Int32)) hx hb dX5_look_13 (by decide) ?_
  refine a_iald (σ := aG (pI ι o 2 (gI ι x1 2))) (o := (x1 + 4)) C hw (aLin_k hx1).2.2.2.2.1 (aIn_v (by decide)) (show (0 : Int32).toNatClampNeg = 0 by decide) dX5_look_14 ?_
  refine a_puti (ty := .int) (σ := aG (pI ι o 2 (gI ι x1 2))) (o := o) (T := TX5) (N := 5) (ty0 := tyX5) C wU_X5 tyX5_ok nmX5 hw (aWit_k ho).1 (by decide) rfl 3 (by decide) rfl wF_X5_22 rfl (by decide +kernel) rfl rfl dX5_look_15 (fun H locs hw => ?_)
  have hw : aW D dA ad adV (aG (pI (pI ι o 2 (gI ι x1 2)) o 3 (gI (pI ι o 2 (gI ι x1 2)) (x1 + 4) 0))) A s H locs := hw
  refine lv_aload_n hx hb dX5_look_18 rfl (lv_at hl 0 rfl) ?_
  refine lv_iconst (v := (2 : Int32)) hx hb dX5_look_19 (by decide) ?_
  refine lv_aload_n hx hb dX5_look_20 rfl (lv_at hl 0 rfl) ?_
  refine a_geti (σ := aG (pI (pI ι o 2 (gI ι x1 2)) o 3 (gI (pI ι o 2 (gI ι x1 2)) (x1 + 4) 0))) (o := o) (T := TX5) (N := 5) C wU_X5 hw (aWit_k ho).1 (by decide) rfl 3 (by decide) rfl wF_X5_22 dX5_look_21 ?_
  refine lv_imul hx hb dX5_look_24 ?_
  refine lv_iconst (v := (1 : Int32)) hx hb dX5_look_25 (by decide) ?_
  refine lv_iadd hx hb dX5_look_26 ?_
  refine a_puti (ty := .int) (σ := aG (pI (pI ι o 2 (gI ι x1 2)) o 3 (gI (pI ι o 2 (gI ι x1 2)) (x1 + 4) 0))) (o := o) (T := TX5) (N := 5) (ty0 := tyX5) C wU_X5 tyX5_ok nmX5 hw (aWit_k ho).1 (by decide) rfl 4 (by decide) rfl wF_X5_25 rfl (by decide +kernel) rfl rfl dX5_look_27 (fun H locs hw => ?_)
  have hw : aW D dA ad adV (aG (pI (pI (pI ι o 2 (gI ι x1 2)) o 3 (gI (pI ι o 2 (gI ι x1 2)) (x1 + 4) 0)) o 4 (((2 : Int32) * (gI (pI (pI ι o 2 (gI ι x1 2)) o 3 (gI (pI ι o 2 (gI ι x1 2)) (x1 + 4) 0)) o 3)) + (1 : Int32)))) A s H locs := hw
  refine lv_aload_n hx hb dX5_look_30 rfl (lv_at hl 0 rfl) ?_
  refine lv_aload_n hx hb dX5_look_31 rfl (lv_at hl 1 rfl) ?_
  refine a_getp (q := (x1 + 4)) (σ := aG (pI (pI (pI ι o 2 (gI ι x1 2)) o 3 (gI (pI ι o 2 (gI ι x1 2)) (x1 + 4) 0)) o 4 (((2 : Int32) * (gI (pI (pI ι o 2 (gI ι x1 2)) o 3 (gI (pI ι o 2 (gI ι x1 2)) (x1 + 4) 0)) o 3)) + (1 : Int32)))) (o := x1) (T := TX2) (N := 11) C wU_X2 hw (aLin_k hx1).1 (by decide) rfl 6 (by decide) rfl wF_X5_33 (aLin_p hx1 (pI (pI (pI ι o 2 (gI ι x1 2)) o 3 (gI (pI ι o 2 (gI ι x1 2)) (x1 + 4) 0)) o 4 (((2 : Int32) * (gI (pI (pI ι o 2 (gI ι x1 2)) o 3 (gI (pI ι o 2 (gI ι x1 2)) (x1 + 4) 0)) o 3)) + (1 : Int32))) 3 (by decide)) dX5_look_32 ?_
  refine lv_iconst (v := (1 : Int32)) hx hb dX5_look_35 (by decide) ?_
  refine a_iald (σ := aG (pI (pI (pI ι o 2 (gI ι x1 2)) o 3 (gI (pI ι o 2 (gI ι x1 2)) (x1 + 4) 0)) o 4 (((2 : Int32) * (gI (pI (pI ι o 2 (gI ι x1 2)) o 3 (gI (pI ι o 2 (gI ι x1 2)) (x1 + 4) 0)) o 3)) + (1 : Int32)))) (o := (x1 + 4)) C hw (aLin_k hx1).2.2.2.2.1 (aIn_v (by decide)) (show (1 : Int32).toNatClampNeg = 1 by decide) dX5_look_36 ?_
  refine a_puti (ty := .int) (σ := aG (pI (pI (pI ι o 2 (gI ι x1 2)) o 3 (gI (pI ι o 2 (gI ι x1 2)) (x1 + 4) 0)) o 4 (((2 : Int32) * (gI (pI (pI ι o 2 (gI ι x1 2)) o 3 (gI (pI ι o 2 (gI ι x1 2)) (x1 + 4) 0)) o 3)) + (1 : Int32)))) (o := o) (T := TX5) (N := 5) (ty0 := tyX5) C wU_X5 tyX5_ok nmX5 hw (aWit_k ho).1 (by decide) rfl 0 (by decide) rfl wF_X5_9 rfl (by decide +kernel) rfl rfl dX5_look_37 (fun H locs hw => ?_)
  have hw : aW D dA ad adV (aG (pI (pI (pI (pI ι o 2 (gI ι x1 2)) o 3 (gI (pI ι o 2 (gI ι x1 2)) (x1 + 4) 0)) o 4 (((2 : Int32) * (gI (pI (pI ι o 2 (gI ι x1 2)) o 3 (gI (pI ι o 2 (gI ι x1 2)) (x1 + 4) 0)) o 3)) + (1 : Int32))) o 0 (gI (pI (pI (pI ι o 2 (gI ι x1 2)) o 3 (gI (pI ι o 2 (gI ι x1 2)) (x1 + 4) 0)) o 4 (((2 : Int32) * (gI (pI (pI ι o 2 (gI ι x1 2)) o 3 (gI (pI ι o 2 (gI ι x1 2)) (x1 + 4) 0)) o 3)) + (1 : Int32))) (x1 + 4) 1))) A s H locs := hw
  refine lv_iconst (v := (0 : Int32)) hx hb dX5_look_40 (by decide) ?_
  refine lv_istore (lv' := [(4, .int (0 : Int32)), (0, .ref (ad o)), (1, .ref (ad x1)), (2, .int x2), (3, .int x3)]) hx hb dX5_look_41 hl (by decide) rfl (fun ls hl => ?_)
  exact tl_X5_look_43 l C ho hx1 aF (x2) (x3) ((0 : Int32)) hM hw (lv_sub hl [1, 2, 3, 4, 0] rfl)
def rm_X0_weigh : Room := { frames := 1, cells := 0, slots := 0, locals := 28 }
theorem k_X0_weigh : aCal RX0 yX0_weigh cX0_weigh 12 none 3 := ⟨wI_yX0_weigh, wE_yX0_weigh, wZ_X0, wC_yX0_weigh, by decide +kernel⟩
set_option maxHeartbeats 4000000 in
set_option maxRecDepth 100000 in
theorem c_X0_weigh (l : Launch) {x1 : Int32} {x2 : Int64} {x3 : Int64} {ι : iS} {res : iS} (hM : m_X0_weigh x1 x2 x3 ι = some res) : aM l yX0_weigh cX0_weigh 12 none rm_X0_weigh (fun ad => [.ref (ad 35), .int x1, .long x2, .long x3]) (aG ι) none (aG res) := by
  refine aM.of (by decide) (fun _ => Nat.le_of_ble_eq_true rfl) ?_
  intro p e s m args below meth c D dA ad adV A ls C hw hl
  have C : aX p m c cX0_weigh 12 s args aTs RX0 meth none := C
  have hx := C.1.1
  have hb := C.1.2.1
  have hml := C.1.2.2.1
  have hown := C.1.2.2.2.1
  have hts := C.1.2.2.2.2
  have hl : lv_has ls 12 [(0, .ref (ad 35)), (1, .int x1), (2, .long x2), (4, .long x3)] := hl
  unfold m_X0_weigh at hM
  refine lv_lconst (v := (1 : Int64)) hx hb dX0_weigh_0 (by decide) ?_
  refine lv_lload hx hb dX0_weigh_1 (lv_at hl 3 rfl) ?_
  refine va_mmax_long hx hb (hml.trans hl.1.symm) hown (hts _ wM_X0_51) (hts _ wS_Lib_MathLoose_max_long_x) (hts _ wZ_J9) (hts _ wC_Lib_MathLoose_max_long_x) (Nat.le_of_ble_eq_true rfl) (Nat.le_of_ble_eq_true rfl) (Nat.zero_le _) (Nat.zero_le _) dX0_weigh_3 ?_
  refine lv_lstore (lv' := [(6, .long (if x3 < (1 : Int64) then (1 : Int64) else x3)), (0, .ref (ad 35)), (1, .int x1), (2, .long x2), (4, .long x3)]) hx hb dX0_weigh_6 hl (by decide) rfl (fun ls hl => ?_)
  refine lv_lload_n hx hb dX0_weigh_8 rfl (lv_at hl 3 rfl) ?_
  refine lv_lload_n hx hb dX0_weigh_9 rfl (lv_at hl 3 rfl) ?_
  refine lv_lmul hx hb dX0_weigh_10 ?_
  refine lv_aload_n hx hb dX0_weigh_11 rfl (lv_at hl 1 rfl) ?_
  refine a_getj (σ := aG ι) (o := 35) (T := TX0) (N := 6) C wU_X0 hw rfl (by decide) rfl 2 (by decide) rfl wF_X0_19 dX0_weigh_12 ?_
  refine lv_lmul hx hb dX0_weigh_15 ?_
  refine lv_lstore (lv' := [(8, .long ((x2 * x2) * (gJ ι 35 2))), (6, .long (if x3 < (1 : Int64) then (1 : Int64) else x3)), (0, .ref (ad 35)), (1, .int x1), (2, .long x2), (4, .long x3)]) hx hb dX0_weigh_16 hl (by decide) rfl (fun ls hl => ?_)
  refine lv_aload_n hx hb dX0_weigh_18 rfl (lv_at hl 2 rfl) ?_
  refine a_getj (σ := aG ι) (o := 35) (T := TX0) (N := 6) C wU_X0 hw rfl (by decide) rfl 1 (by decide) rfl wF_X0_15 dX0_weigh_19 ?_
  refine lv_aload_n hx hb dX0_weigh_22 rfl (lv_at hl 2 rfl) ?_
  refine a_getj (σ := aG ι) (o := 35) (T := TX0) (N := 6) C wU_X0 hw rfl (by decide) rfl 1 (by decide) rfl wF_X0_15 dX0_weigh_23 ?_
  refine lv_lmul hx hb dX0_weigh_26 ?_
  refine lv_lload hx hb dX0_weigh_27 (lv_at hl 1 rfl) ?_
  refine lv_lmul hx hb dX0_weigh_29 ?_
  refine lv_lstore (lv' := [(10, .long (((gJ ι 35 1) * (gJ ι 35 1)) * (if x3 < (1 : Int64) then (1 : Int64) else x3))), (8, .long ((x2 * x2) * (gJ ι 35 2))), (6, .long (if x3 < (1 : Int64) then (1 : Int64) else x3)), (0, .ref (ad 35)), (1, .int x1), (2, .long x2), (4, .long x3)]) hx hb dX0_weigh_30 hl (by decide) rfl (fun ls hl => ?_)
  refine lv_aload_n hx hb dX0_weigh_32 rfl (lv_at hl 3 rfl) ?_
  refine a_geti (σ := aG ι) (o := 35) (T := TX0) (N := 6) C wU_X0 hw rfl (by decide) rfl 3 (by decide) rfl wF_X0_22 dX0_weigh_33 ?_
  refine lv_if_eq (tgt := 63) hx hb dX0_weigh_36 (by decide) (fun hc => ?_) (fun hc => ?_)
  · replace hM := h_t hc hM
    refine lv_aload_n hx hb dX0_weigh_63 rfl (lv_at hl 3 rfl) ?_
    refine lv_iconst (v := (1 : Int32)) hx hb dX0_weigh_64 (by decide) ?_
    refine a_puti (ty := .boolean) (σ := aG ι) (o := 35) (T := TX0) (N := 6) (ty0 := tyX0) C wU_X0 tyX0_ok nmX0 hw rfl (by decide) rfl 3 (by decide) rfl wF_X0_22 rfl (by decide +kernel) (by decide) (by decide) dX0_weigh_65 (fun H locs hw => ?_)
    have hw : aW D dA ad adV (aG (pI ι 35 3 (1 : Int32))) A s H locs := hw
    refine lv_aload_n hx hb dX0_weigh_68 rfl (lv_at hl 3 rfl) ?_
    refine lv_iload_n hx hb dX0_weigh_69 rfl (lv_at hl 4 rfl) ?_
    refine a_puti (ty := .int) (σ := aG (pI ι 35 3 (1 : Int32))) (o := 35) (T := TX0) (N := 6) (ty0 := tyX0) C wU_X0 tyX0_ok nmX0 hw rfl (by decide) rfl 0 (by decide) rfl wF_X0_9 rfl (by decide +kernel) rfl rfl dX0_weigh_70 (fun H locs hw => ?_)
    have hw : aW D dA ad adV (aG (pI (pI ι 35 3 (1 : Int32)) 35 0 x1)) A s H locs := hw
    refine lv_aload_n hx hb dX0_weigh_73 rfl (lv_at hl 3 rfl) ?_
    refine lv_lload_n hx hb dX0_weigh_74 rfl (lv_at hl 5 rfl) ?_
    refine a_putj (σ := aG (pI (pI ι 35 3 (1 : Int32)) 35 0 x1)) (o := 35) (T := TX0) (N := 6) (ty0 := tyX0) C wU_X0 tyX0_ok nmX0 hw rfl (by decide) rfl 1 (by decide) rfl wF_X0_15 rfl (by decide +kernel) dX0_weigh_75 (fun H locs hw => ?_)
    have hw : aW D dA ad adV (aG (pJ (pI (pI ι 35 3 (1 : Int32)) 35 0 x1) 35 1 x2)) A s H locs := hw
    refine lv_aload_n hx hb dX0_weigh_78 rfl (lv_at hl 3 rfl) ?_
    refine lv_lload hx hb dX0_weigh_79 (lv_at hl 2 rfl) ?_
    refine a_putj (σ := aG (pJ (pI (pI ι 35 3 (1 : Int32)) 35 0 x1) 35 1 x2)) (o := 35) (T := TX0) (N := 6) (ty0 := tyX0) C wU_X0 tyX0_ok nmX0 hw rfl (by decide) rfl 2 (by decide) rfl wF_X0_19 rfl (by decide +kernel) dX0_weigh_81 (fun H locs hw => ?_)
    have hw : aW D dA ad adV (aG (pJ (pJ (pI (pI ι 35 3 (1 : Int32)) 35 0 x1) 35 1 x2) 35 2 (if x3 < (1 : Int64) then (1 : Int64) else x3))) A s H locs := hw
    cases h_e hM
    exact a_vret C hw dX0_weigh_84
  · replace hM := h_f hc hM
    refine lv_lload hx hb dX0_weigh_39 (lv_at hl 1 rfl) ?_
    refine lv_lload hx hb dX0_weigh_41 (lv_at hl 0 rfl) ?_
    refine W.lcmp hx hb dX0_weigh_43 ?_
    refine lv_if_gt (tgt := 63) hx hb dX0_weigh_44 (by decide) (fun hc => ?_) (fun hc => ?_)
    · replace hM := h_t hc hM
      refine lv_aload_n hx hb dX0_weigh_63 rfl (lv_at hl 3 rfl) ?_
      refine lv_iconst (v := (1 : Int32)) hx hb dX0_weigh_64 (by decide) ?_
      refine a_puti (ty := .boolean) (σ := aG ι) (o := 35) (T := TX0) (N := 6) (ty0 := tyX0) C wU_X0 tyX0_ok nmX0 hw rfl (by decide) rfl 3 (by decide) rfl wF_X0_22 rfl (by decide +kernel) (by decide) (by decide) dX0_weigh_65 (fun H locs hw => ?_)
      have hw : aW D dA ad adV (aG (pI ι 35 3 (1 : Int32))) A s H locs := hw
      refine lv_aload_n hx hb dX0_weigh_68 rfl (lv_at hl 3 rfl) ?_
      refine lv_iload_n hx hb dX0_weigh_69 rfl (lv_at hl 4 rfl) ?_
      refine a_puti (ty := .int) (σ := aG (pI ι 35 3 (1 : Int32))) (o := 35) (T := TX0) (N := 6) (ty0 := tyX0) C wU_X0 tyX0_ok nmX0 hw rfl (by decide) rfl 0 (by decide) rfl wF_X0_9 rfl (by decide +kernel) rfl rfl dX0_weigh_70 (fun H locs hw => ?_)
      have hw : aW D dA ad adV (aG (pI (pI ι 35 3 (1 : Int32)) 35 0 x1)) A s H locs := hw
      refine lv_aload_n hx hb dX0_weigh_73 rfl (lv_at hl 3 rfl) ?_
      refine lv_lload_n hx hb dX0_weigh_74 rfl (lv_at hl 5 rfl) ?_
      refine a_putj (σ := aG (pI (pI ι 35 3 (1 : Int32)) 35 0 x1)) (o := 35) (T := TX0) (N := 6) (ty0 := tyX0) C wU_X0 tyX0_ok nmX0 hw rfl (by decide) rfl 1 (by decide) rfl wF_X0_15 rfl (by decide +kernel) dX0_weigh_75 (fun H locs hw => ?_)
      have hw : aW D dA ad adV (aG (pJ (pI (pI ι 35 3 (1 : Int32)) 35 0 x1) 35 1 x2)) A s H locs := hw
      refine lv_aload_n hx hb dX0_weigh_78 rfl (lv_at hl 3 rfl) ?_
      refine lv_lload hx hb dX0_weigh_79 (lv_at hl 2 rfl) ?_
      refine a_putj (σ := aG (pJ (pI (pI ι 35 3 (1 : Int32)) 35 0 x1) 35 1 x2)) (o := 35) (T := TX0) (N := 6) (ty0 := tyX0) C wU_X0 tyX0_ok nmX0 hw rfl (by decide) rfl 2 (by decide) rfl wF_X0_19 rfl (by decide +kernel) dX0_weigh_81 (fun H locs hw => ?_)
      have hw : aW D dA ad adV (aG (pJ (pJ (pI (pI ι 35 3 (1 : Int32)) 35 0 x1) 35 1 x2) 35 2 (if x3 < (1 : Int64) then (1 : Int64) else x3))) A s H locs := hw
      cases h_e hM
      exact a_vret C hw dX0_weigh_84
    · replace hM := h_f hc hM
      refine lv_lload hx hb dX0_weigh_47 (lv_at hl 1 rfl) ?_
      refine lv_lload hx hb dX0_weigh_49 (lv_at hl 0 rfl) ?_
      refine W.lcmp hx hb dX0_weigh_51 ?_
      refine lv_if_ne (tgt := 84) hx hb dX0_weigh_52 (by decide) (fun hc => ?_) (fun hc => ?_)
      · replace hM := h_f hc hM
        cases h_e hM
        exact a_vret C hw dX0_weigh_84
      · replace hM := h_t hc hM
        refine lv_iload_n hx hb dX0_weigh_55 rfl (lv_at hl 4 rfl) ?_
        refine lv_aload_n hx hb dX0_weigh_56 rfl (lv_at hl 3 rfl) ?_
        refine a_geti (σ := aG ι) (o := 35) (T := TX0) (N := 6) C wU_X0 hw rfl (by decide) rfl 0 (by decide) rfl wF_X0_9 dX0_weigh_57 ?_
        refine lv_icmp_ge (tgt := 84) hx hb dX0_weigh_60 (by decide) (fun hc => ?_) (fun hc => ?_)
        · replace hM := h_t hc hM
          cases h_e hM
          exact a_vret C hw dX0_weigh_84
        · replace hM := h_f hc hM
          refine lv_aload_n hx hb dX0_weigh_63 rfl (lv_at hl 3 rfl) ?_
          refine lv_iconst (v := (1 : Int32)) hx hb dX0_weigh_64 (by decide) ?_
          refine a_puti (ty := .boolean) (σ := aG ι) (o := 35) (T := TX0) (N := 6) (ty0 := tyX0) C wU_X0 tyX0_ok nmX0 hw rfl (by decide) rfl 3 (by decide) rfl wF_X0_22 rfl (by decide +kernel) (by decide) (by decide) dX0_weigh_65 (fun H locs hw => ?_)
          have hw : aW D dA ad adV (aG (pI ι 35 3 (1 : Int32))) A s H locs := hw
          refine lv_aload_n hx hb dX0_weigh_68 rfl (lv_at hl 3 rfl) ?_
          refine lv_iload_n hx hb dX0_weigh_69 rfl (lv_at hl 4 rfl) ?_
          refine a_puti (ty := .int) (σ := aG (pI ι 35 3 (1 : Int32))) (o := 35) (T := TX0) (N := 6) (ty0 := tyX0) C wU_X0 tyX0_ok nmX0 hw rfl (by decide) rfl 0 (by decide) rfl wF_X0_9 rfl (by decide +kernel) rfl rfl dX0_weigh_70 (fun H locs hw => ?_)
          have hw : aW D dA ad adV (aG (pI (pI ι 35 3 (1 : Int32)) 35 0 x1)) A s H locs := hw
          refine lv_aload_n hx hb dX0_weigh_73 rfl (lv_at hl 3 rfl) ?_
          refine lv_lload_n hx hb dX0_weigh_74 rfl (lv_at hl 5 rfl) ?_
          refine a_putj (σ := aG (pI (pI ι 35 3 (1 : Int32)) 35 0 x1)) (o := 35) (T := TX0) (N := 6) (ty0 := tyX0) C wU_X0 tyX0_ok nmX0 hw rfl (by decide) rfl 1 (by decide) rfl wF_X0_15 rfl (by decide +kernel) dX0_weigh_75 (fun H locs hw => ?_)
          have hw : aW D dA ad adV (aG (pJ (pI (pI ι 35 3 (1 : Int32)) 35 0 x1) 35 1 x2)) A s H locs := hw
          refine lv_aload_n hx hb dX0_weigh_78 rfl (lv_at hl 3 rfl) ?_
          refine lv_lload hx hb dX0_weigh_79 (lv_at hl 2 rfl) ?_
          refine a_putj (σ := aG (pJ (pI (pI ι 35 3 (1 : Int32)) 35 0 x1) 35 1 x2)) (o := 35) (T := TX0) (N := 6) (ty0 := tyX0) C wU_X0 tyX0_ok nmX0 hw rfl (by decide) rfl 2 (by decide) rfl wF_X0_19 rfl (by decide +kernel) dX0_weigh_81 (fun H locs hw => ?_)
          have hw : aW D dA ad adV (aG (pJ (pJ (pI (pI ι 35 3 (1 : Int32)) 35 0 x1) 35 1 x2) 35 2 (if x3 < (1 : Int64) then (1 : Int64) else x3))) A s H locs := hw
          cases h_e hM
          exact a_vret C hw dX0_weigh_84
def rm_X1_clear : Room := { frames := 0, cells := 0, slots := 0, locals := 0 }
theorem k_X1_clear : aCal RX1 yX1_clear cX1_clear 1 none 0 := ⟨wI_yX1_clear, wE_yX1_clear, wZ_X1, wC_yX1_clear, by decide +kernel⟩
set_option maxHeartbeats 4000000 in
set_option maxRecDepth 100000 in
theorem c_X1_clear (l : Launch) {ι : iS} {res : iS} (hM : m_X1_clear ι = some res) : aM l yX1_clear cX1_clear 1 none rm_X1_clear (fun ad => [.ref (ad 21)]) (aG ι) none (aG res) := by
  refine aM.of (by decide) (fun _ => Nat.le_of_ble_eq_true rfl) ?_
  intro p e s m args below meth c D dA ad adV A ls C hw hl
  have C : aX p m c cX1_clear 1 s args aTs RX1 meth none := C
  have hx := C.1.1
  have hb := C.1.2.1
  have hml := C.1.2.2.1
  have hown := C.1.2.2.2.1
  have hts := C.1.2.2.2.2
  have hl : lv_has ls 1 [(0, .ref (ad 21))] := hl
  unfold m_X1_clear at hM
  refine lv_aload_n hx hb dX1_clear_0 rfl (lv_at hl 0 rfl) ?_
  refine lv_iconst (v := (0 : Int32)) hx hb dX1_clear_1 (by decide) ?_
  refine a_puti (ty := .int) (σ := aG ι) (o := 21) (T := TX1) (N := 3) (ty0 := tyX1) C wU_X1 tyX1_ok nmX1 hw rfl (by decide) rfl 2 (by decide) rfl wF_X1_19 rfl (by decide +kernel) rfl rfl dX1_clear_2 (fun H locs hw => ?_)
  have hw : aW D dA ad adV (aG (pI ι 21 2 (0 : Int32))) A s H locs := hw
  cases h_e hM
  exact a_vret C hw dX1_clear_5
def rm_X1_add : Room := { frames := 0, cells := 0, slots := 0, locals := 0 }
theorem k_X1_add : aCal RX1 yX1_add cX1_add 3 none 2 := ⟨wI_yX1_add, wE_yX1_add, wZ_X1, wC_yX1_add, by decide +kernel⟩
set_option maxHeartbeats 4000000 in
set_option maxRecDepth 100000 in
theorem c_X1_add (l : Launch) {x1 : Int32} {x2 : Int32} {ι : iS} {res : iS} (hM : m_X1_add x1 x2 ι = some res) : aM l yX1_add cX1_add 3 none rm_X1_add (fun ad => [.ref (ad 21), .int x1, .int x2]) (aG ι) none (aG res) := by
  refine aM.of (by decide) (fun _ => Nat.le_of_ble_eq_true rfl) ?_
  intro p e s m args below meth c D dA ad adV A ls C hw hl
  have C : aX p m c cX1_add 3 s args aTs RX1 meth none := C
  have hx := C.1.1
  have hb := C.1.2.1
  have hml := C.1.2.2.1
  have hown := C.1.2.2.2.1
  have hts := C.1.2.2.2.2
  have hl : lv_has ls 3 [(0, .ref (ad 21)), (1, .int x1), (2, .int x2)] := hl
  unfold m_X1_add at hM
  refine lv_aload_n hx hb dX1_add_0 rfl (lv_at hl 0 rfl) ?_
  refine a_geti (σ := aG ι) (o := 21) (T := TX1) (N := 3) C wU_X1 hw rfl (by decide) rfl 2 (by decide) rfl wF_X1_19 dX1_add_1 ?_
  refine lv_aload_n hx hb dX1_add_4 rfl (lv_at hl 0 rfl) ?_
  refine a_getp (q := 22) (σ := aG ι) (o := 21) (T := TX1) (N := 3) C wU_X1 hw rfl (by decide) rfl 0 (by decide) rfl wF_X1_9 (aG_P rfl rfl) dX1_add_5 ?_
  refine a_alen (σ := aG ι) (v := (500 : Int32)) C hw rfl (by decide) (by decide) (by decide) dX1_add_8 ?_
  refine lv_icmp_ge (tgt := 37) hx hb dX1_add_9 (by decide) (fun hc => ?_) (fun hc => ?_)
  · replace hM := h_t hc hM
    cases h_e hM
    exact a_vret C hw dX1_add_37
  · replace hM := h_f hc hM
    refine lv_aload_n hx hb dX1_add_12 rfl (lv_at hl 0 rfl) ?_
    refine a_getp (q := 22) (σ := aG ι) (o := 21) (T := TX1) (N := 3) C wU_X1 hw rfl (by decide) rfl 0 (by decide) rfl wF_X1_9 (aG_P rfl rfl) dX1_add_13 ?_
    refine lv_aload_n hx hb dX1_add_16 rfl (lv_at hl 0 rfl) ?_
    refine a_geti (σ := aG ι) (o := 21) (T := TX1) (N := 3) C wU_X1 hw rfl (by decide) rfl 2 (by decide) rfl wF_X1_19 dX1_add_17 ?_
    refine lv_iload_n hx hb dX1_add_20 rfl (lv_at hl 1 rfl) ?_
    refine lv_bipush (v := (7 : Int32)) hx hb dX1_add_21 (by decide) ?_
    refine lv_ishl hx hb dX1_add_23 ?_
    refine lv_iload_n hx hb dX1_add_24 rfl (lv_at hl 2 rfl) ?_
    refine lv_ior hx hb dX1_add_25 ?_
    obtain ⟨hi, hM⟩ := h_i hM
    refine a_iast (σ := aG ι) (o := 22) C hw rfl hi rfl dX1_add_26 (fun H locs hw => ?_)
    have hw : aW D dA ad adV (aG (pI ι 22 (gI ι 21 2).toNatClampNeg ((x1 <<< ((7 : Int32) &&& 31)) ||| x2))) A s H locs := hw
    refine lv_aload_n hx hb dX1_add_27 rfl (lv_at hl 0 rfl) ?_
    refine lv_dup hx hb dX1_add_28 rfl ?_
    refine a_geti (σ := aG (pI ι 22 (gI ι 21 2).toNatClampNeg ((x1 <<< ((7 : Int32) &&& 31)) ||| x2))) (o := 21) (T := TX1) (N := 3) C wU_X1 hw rfl (by decide) rfl 2 (by decide) rfl wF_X1_19 dX1_add_29 ?_
    refine lv_iconst (v := (1 : Int32)) hx hb dX1_add_32 (by decide) ?_
    refine lv_iadd hx hb dX1_add_33 ?_
    refine a_puti (ty := .int) (σ := aG (pI ι 22 (gI ι 21 2).toNatClampNeg ((x1 <<< ((7 : Int32) &&& 31)) ||| x2))) (o := 21) (T := TX1) (N := 3) (ty0 := tyX1) C wU_X1 tyX1_ok nmX1 hw rfl (by decide) rfl 2 (by decide) rfl wF_X1_19 rfl (by decide +kernel) rfl rfl dX1_add_34 (fun H locs hw => ?_)
    have hw : aW D dA ad adV (aG (pI (pI ι 22 (gI ι 21 2).toNatClampNeg ((x1 <<< ((7 : Int32) &&& 31)) ||| x2)) 21 2 ((gI (pI ι 22 (gI ι 21 2).toNatClampNeg ((x1 <<< ((7 : Int32) &&& 31)) ||| x2)) 21 2) + (1 : Int32)))) A s H locs := hw
    cases h_e hM
    exact a_vret C hw dX1_add_37
def rm_X1_joined : Room := { frames := 1, cells := 0, slots := 0, locals := 28 }
theorem k_X1_joined : aCalS yX1_joined cX1_joined 7 (some .long) 3 := ⟨wS_yX1_joined, wZ_X1, wC_yX1_joined, by decide +kernel⟩
set_option maxHeartbeats 4000000 in
set_option maxRecDepth 100000 in
theorem c_X1_joined (l : Launch) {x1 : Int32} {x2 : Int64} {x3 : Int64} {ι : iS} {res : Int64 × iS} (hM : m_X1_joined x1 x2 x3 ι = some res) : aM l yX1_joined cX1_joined 7 (some .long) rm_X1_joined (fun ad => [.int x1, .long x2, .long x3]) (aG ι) (some (.long res.1)) (aG res.2) := by
  refine aM.of (by decide) (fun _ => Nat.le_of_ble_eq_true rfl) ?_
  intro p e s m args below meth c D dA ad adV A ls C hw hl
  have C : aX p m c cX1_joined 7 s args aTs RX1 meth (some .long) := C
  have hx := C.1.1
  have hb := C.1.2.1
  have hml := C.1.2.2.1
  have hown := C.1.2.2.2.1
  have hts := C.1.2.2.2.2
  have hl : lv_has ls 7 [(0, .int x1), (1, .long x2), (3, .long x3)] := hl
  unfold m_X1_joined at hM
  refine lv_lload_n hx hb dX1_joined_0 rfl (lv_at hl 1 rfl) ?_
  refine lv_lload_n hx hb dX1_joined_1 rfl (lv_at hl 2 rfl) ?_
  refine lv_lmul hx hb dX1_joined_2 ?_
  refine lv_lstore (lv' := [(5, .long (x2 * x3)), (0, .int x1), (1, .long x2), (3, .long x3)]) hx hb dX1_joined_3 hl (by decide) rfl (fun ls hl => ?_)
  refine lv_iload_n hx hb dX1_joined_5 rfl (lv_at hl 1 rfl) ?_
  refine lv_iconst (v := (5 : Int32)) hx hb dX1_joined_6 (by decide) ?_
  refine lv_icmp_ne (tgt := 18) hx hb dX1_joined_7 (by decide) (fun hc => ?_) (fun hc => ?_)
  · replace hM := h_f hc hM
    refine lv_iload_n hx hb dX1_joined_18 rfl (lv_at hl 1 rfl) ?_
    refine lv_bipush (v := (6 : Int32)) hx hb dX1_joined_19 (by decide) ?_
    refine lv_icmp_ne (tgt := 29) hx hb dX1_joined_21 (by decide) (fun hc => ?_) (fun hc => ?_)
    · replace hM := h_f hc hM
      refine lv_ldc2 (v := (-1000000 : Int64)) hx hb hown (hts _ wQ_X1_71) dX1_joined_29 ?_
      refine lv_ldc2 (v := (1000000 : Int64)) hx hb hown (hts _ wQ_X1_73) dX1_joined_32 ?_
      refine lv_lload hx hb dX1_joined_35 (lv_at hl 0 rfl) ?_
      refine va_mmin_long hx hb (hml.trans hl.1.symm) hown (hts _ wM_X1_75) (hts _ wS_Lib_MathLoose_min_long_x) (hts _ wZ_J9) (hts _ wC_Lib_MathLoose_min_long_x) (Nat.le_of_ble_eq_true rfl) (Nat.le_of_ble_eq_true rfl) (Nat.zero_le _) (Nat.zero_le _) dX1_joined_37 ?_
      refine va_mmax_long hx hb (hml.trans hl.1.symm) hown (hts _ wM_X1_81) (hts _ wS_Lib_MathLoose_max_long_x) (hts _ wZ_J9) (hts _ wC_Lib_MathLoose_max_long_x) (Nat.le_of_ble_eq_true rfl) (Nat.le_of_ble_eq_true rfl) (Nat.zero_le _) (Nat.zero_le _) dX1_joined_40 ?_
      cases h_e hM
      exact a_lret C hw dX1_joined_43
    · replace hM := h_t hc hM
      refine lv_lload_n hx hb dX1_joined_24 rfl (lv_at hl 2 rfl) ?_
      refine lv_lload_n hx hb dX1_joined_25 rfl (lv_at hl 3 rfl) ?_
      refine lv_lsub hx hb dX1_joined_26 ?_
      refine lv_lstore (lv' := [(5, .long (x2 - x3)), (0, .int x1), (1, .long x2), (3, .long x3)]) hx hb dX1_joined_27 hl (by decide) rfl (fun ls hl => ?_)
      refine lv_ldc2 (v := (-1000000 : Int64)) hx hb hown (hts _ wQ_X1_71) dX1_joined_29 ?_
      refine lv_ldc2 (v := (1000000 : Int64)) hx hb hown (hts _ wQ_X1_73) dX1_joined_32 ?_
      refine lv_lload hx hb dX1_joined_35 (lv_at hl 0 rfl) ?_
      refine va_mmin_long hx hb (hml.trans hl.1.symm) hown (hts _ wM_X1_75) (hts _ wS_Lib_MathLoose_min_long_x) (hts _ wZ_J9) (hts _ wC_Lib_MathLoose_min_long_x) (Nat.le_of_ble_eq_true rfl) (Nat.le_of_ble_eq_true rfl) (Nat.zero_le _) (Nat.zero_le _) dX1_joined_37 ?_
      refine va_mmax_long hx hb (hml.trans hl.1.symm) hown (hts _ wM_X1_81) (hts _ wS_Lib_MathLoose_max_long_x) (hts _ wZ_J9) (hts _ wC_Lib_MathLoose_max_long_x) (Nat.le_of_ble_eq_true rfl) (Nat.le_of_ble_eq_true rfl) (Nat.zero_le _) (Nat.zero_le _) dX1_joined_40 ?_
      cases h_e hM
      exact a_lret C hw dX1_joined_43
  · replace hM := h_t hc hM
    refine lv_lload_n hx hb dX1_joined_10 rfl (lv_at hl 2 rfl) ?_
    refine lv_lload_n hx hb dX1_joined_11 rfl (lv_at hl 3 rfl) ?_
    refine lv_ladd hx hb dX1_joined_12 ?_
    refine lv_lstore (lv' := [(5, .long (x2 + x3)), (0, .int x1), (1, .long x2), (3, .long x3)]) hx hb dX1_joined_13 hl (by decide) rfl (fun ls hl => ?_)
    refine lv_goto (tgt := 29) hx hb dX1_joined_15 (by decide) ?_
    refine lv_ldc2 (v := (-1000000 : Int64)) hx hb hown (hts _ wQ_X1_71) dX1_joined_29 ?_
    refine lv_ldc2 (v := (1000000 : Int64)) hx hb hown (hts _ wQ_X1_73) dX1_joined_32 ?_
    refine lv_lload hx hb dX1_joined_35 (lv_at hl 0 rfl) ?_
    refine va_mmin_long hx hb (hml.trans hl.1.symm) hown (hts _ wM_X1_75) (hts _ wS_Lib_MathLoose_min_long_x) (hts _ wZ_J9) (hts _ wC_Lib_MathLoose_min_long_x) (Nat.le_of_ble_eq_true rfl) (Nat.le_of_ble_eq_true rfl) (Nat.zero_le _) (Nat.zero_le _) dX1_joined_37 ?_
    refine va_mmax_long hx hb (hml.trans hl.1.symm) hown (hts _ wM_X1_81) (hts _ wS_Lib_MathLoose_max_long_x) (hts _ wZ_J9) (hts _ wC_Lib_MathLoose_max_long_x) (Nat.le_of_ble_eq_true rfl) (Nat.le_of_ble_eq_true rfl) (Nat.zero_le _) (Nat.zero_le _) dX1_joined_40 ?_
    cases h_e hM
    exact a_lret C hw dX1_joined_43
def rm_X1_ofTrait : Room := { frames := 2, cells := 0, slots := 0, locals := 52 }
theorem k_X1_ofTrait : aCalS yX1_ofTrait cX1_ofTrait 5 (some .long) 5 := ⟨wS_yX1_ofTrait, wZ_X1, wC_yX1_ofTrait, by decide +kernel⟩
set_option maxHeartbeats 4000000 in
set_option maxRecDepth 100000 in
theorem c_X1_ofTrait (l : Launch) {x1 : Int32} {x2 : Int32} {x3 : Nat} {x4 : Int32} {x5 : Int32} (hx3 : aLin x3 = true) {ι : iS} {res : Int64 × iS} (hM : m_X1_ofTrait x1 x2 x3 x4 x5 ι = some res) : aM l yX1_ofTrait cX1_ofTrait 5 (some .long) rm_X1_ofTrait (fun ad => [.int x1, .int x2, .ref (ad x3), .int x4, .int x5]) (aG ι) (some (.long res.1)) (aG res.2) := by
  refine aM.of (by decide) (fun _ => Nat.le_of_ble_eq_true rfl) ?_
  intro p e s m args below meth c D dA ad adV A ls C hw hl
  have C : aX p m c cX1_ofTrait 5 s args aTs RX1 meth (some .long) := C
  have hx := C.1.1
  have hb := C.1.2.1
  have hml := C.1.2.2.1
  have hown := C.1.2.2.2.1
  have hts := C.1.2.2.2.2
  have hl : lv_has ls 5 [(0, .int x1), (1, .int x2), (2, .ref (ad x3)), (3, .int x4), (4, .int x5)] := hl
  unfold m_X1_ofTrait at hM
  refine lv_iload_n hx hb dX1_ofTrait_0 rfl (lv_at hl 0 rfl) ?_
  refine lv_iconst (v := (1 : Int32)) hx hb dX1_ofTrait_1 (by decide) ?_
  refine lv_icmp_ne (tgt := 13) hx hb dX1_ofTrait_2 (by decide) (fun hc => ?_) (fun hc => ?_)
  · replace hM := h_f hc hM
    refine lv_iload_n hx hb dX1_ofTrait_13 rfl (lv_at hl 0 rfl) ?_
    refine lv_iconst (v := (2 : Int32)) hx hb dX1_ofTrait_14 (by decide) ?_
    refine lv_icmp_ne (tgt := 30) hx hb dX1_ofTrait_15 (by decide) (fun hc => ?_) (fun hc => ?_)
    · replace hM := h_f hc hM
      refine lv_aload_n hx hb dX1_ofTrait_30 rfl (lv_at hl 2 rfl) ?_
      refine a_getp (q := (x3 + 3)) (σ := aG ι) (o := x3) (T := TX2) (N := 11) C wU_X2 hw (aLin_k hx3).1 (by decide) rfl 5 (by decide) rfl wF_X1_52 (aLin_p hx3 ι 2 (by decide)) dX1_ofTrait_31 ?_
      refine lv_iload_n hx hb dX1_ofTrait_34 rfl (lv_at hl 1 rfl) ?_
      obtain ⟨hi, hM⟩ := h_i hM
      refine a_iald (σ := aG ι) (o := (x3 + 3)) C hw (aLin_k hx3).2.2.2.1 hi rfl dX1_ofTrait_35 ?_
      refine lv_i2l hx hb dX1_ofTrait_36 rfl ?_
      cases h_e hM
      exact a_lret C hw dX1_ofTrait_37
    · replace hM := h_t hc hM
      refine lv_aload_n hx hb dX1_ofTrait_18 rfl (lv_at hl 2 rfl) ?_
      refine lv_iload_n hx hb dX1_ofTrait_19 rfl (lv_at hl 3 rfl) ?_
      refine lv_iload_n hx hb dX1_ofTrait_20 rfl (lv_at hl 1 rfl) ?_
      refine lv_iload hx hb dX1_ofTrait_21 (lv_at hl 4 rfl) ?_
      obtain ⟨r23, hr23, hM⟩ := h_b hM
      refine a_callV (σ' := aG r23.2) (v := (some (.int r23.1))) (As := fun ad => [.int x4, .int x2, .int x5]) (rest := []) (o := x3) C hw (c_X2_differenceOf l (hx3) hr23) k_X2_differenceOf wM_X1_55 ⟨⟨rfl, rfl⟩, ⟨Nat.le_of_ble_eq_true rfl, Nat.le_of_ble_eq_true rfl⟩⟩ (aLin_k hx3).1 (by decide) rfl rfl rfl hl rfl (Nat.le_of_ble_eq_true rfl) dX1_ofTrait_23 ⟨Nat.zero_le _, Nat.zero_le _⟩ (fun H locs hw => ?_)
      refine lv_i2l hx hb dX1_ofTrait_26 rfl ?_
      refine lv_goto (tgt := 37) hx hb dX1_ofTrait_27 (by decide) ?_
      cases h_e hM
      exact a_lret C hw dX1_ofTrait_37
  · replace hM := h_t hc hM
    refine lv_aload_n hx hb dX1_ofTrait_5 rfl (lv_at hl 2 rfl) ?_
    refine lv_iload_n hx hb dX1_ofTrait_6 rfl (lv_at hl 3 rfl) ?_
    refine lv_iload_n hx hb dX1_ofTrait_7 rfl (lv_at hl 1 rfl) ?_
    obtain ⟨r8, hr8, hM⟩ := h_b hM
    refine a_callV (σ' := aG r8.2) (v := (some (.int r8.1))) (As := fun ad => [.int x4, .int x2]) (rest := []) (o := x3) C hw (c_X2_valueOf l (hx3) hr8) k_X2_valueOf wM_X1_67 ⟨⟨rfl, rfl⟩, ⟨Nat.le_of_ble_eq_true rfl, Nat.le_of_ble_eq_true rfl⟩⟩ (aLin_k hx3).1 (by decide) rfl rfl rfl hl rfl (Nat.le_of_ble_eq_true rfl) dX1_ofTrait_8 ⟨Nat.zero_le _, Nat.zero_le _⟩ (fun H locs hw => ?_)
    refine lv_i2l hx hb dX1_ofTrait_11 rfl ?_
    cases h_e hM
    exact a_lret C hw dX1_ofTrait_12
def rm_X1_plainRate : Room := { frames := 2, cells := 0, slots := 0, locals := 52 }
set_option maxHeartbeats 4000000 in
set_option maxRecDepth 100000 in
theorem tl_X1_plainRate_5 (l : Launch) {p : Program} {e : Env} {s : State} {m : MethodId} {args : Array Value} {below : List Frame} {meth : Method} {c : Code} {D : va_G} {dA : Nat → ClassId} {ad adV : Nat → Nat} {A : Nat → Prop} (C : aX p m c cX1_plainRate 5 s args aTs RX1 meth (some .int)) {x1 : Nat} (hx1 : aLin x1 = true) {res : Int32 × iS} : ∀ (n : Nat) (y1 : Int32) (y2 : Int32) (y3 : Int32) (y4 : Int32) {ι : iS}, l_X1_plainRate_5 x1 n y1 y2 y3 y4 ι = some res → ∀ {H : Heap} {locs : List Loc} {ls : Array Slot}, aW D dA ad adV (aG ι) A s H locs → lv_has ls 5 [(0, .ref (ad x1)), (1, .int y1), (2, .int y2), (3, .int y3), (4, .int y4)] → W p l e rm_X1_plainRate s m args below meth c H locs 0 0 (MQ below (aQ D dA ad (aG res.2) A (some (.int res.1))) args s 0 0 A) (F0 m 5 ls []) := by
  have hx := C.1.1
  have hb := C.1.2.1
  have hml := C.1.2.2.1
  have hown := C.1.2.2.2.1
  have hts := C.1.2.2.2.2
  intro n
  induction n with
  | zero => intro y1 y2 y3 y4 ι hM; simp [l_X1_plainRate_5] at hM
  | succ n ih =>
    intro y1 y2 y3 y4 ι hM H locs ls hw hl
    rw [l_X1_plainRate_5] at hM
    refine lv_iload hx hb dX1_plainRate_5 (lv_at hl 4 rfl) ?_
    refine lv_aload_n hx hb dX1_plainRate_7 rfl (lv_at hl 0 rfl) ?_
    refine a_geti (σ := aG ι) (o := x1) (T := TX2) (N := 11) C wU_X2 hw (aLin_k hx1).1 (by decide) rfl 0 (by decide) rfl wF_X1_49 dX1_plainRate_8 ?_
    refine lv_icmp_ge (tgt := 42) hx hb dX1_plainRate_11 (by decide) (fun hc => ?_) (fun hc => ?_)
    · replace hM := h_t hc hM
      refine lv_iload_n hx hb dX1_plainRate_42 rfl (lv_at hl 3 rfl) ?_
      cases h_e hM
      exact a_iret C hw dX1_plainRate_43
    · replace hM := h_f hc hM
      refine lv_iload_n hx hb dX1_plainRate_14 rfl (lv_at hl 3 rfl) ?_
      refine lv_aload_n hx hb dX1_plainRate_15 rfl (lv_at hl 0 rfl) ?_
      refine a_getp (q := (x1 + 3)) (σ := aG ι) (o := x1) (T := TX2) (N := 11) C wU_X2 hw (aLin_k hx1).1 (by decide) rfl 5 (by decide) rfl wF_X1_52 (aLin_p hx1 ι 2 (by decide)) dX1_plainRate_16 ?_
      refine lv_iload hx hb dX1_plainRate_19 (lv_at hl 4 rfl) ?_
      obtain ⟨hi, hM⟩ := h_i hM
      refine a_iald (σ := aG ι) (o := (x1 + 3)) C hw (aLin_k hx1).2.2.2.1 hi rfl dX1_plainRate_21 ?_
      refine lv_bipush (v := (9 : Int32)) hx hb dX1_plainRate_22 (by decide) ?_
      refine lv_aload_n hx hb dX1_plainRate_24 rfl (lv_at hl 0 rfl) ?_
      refine lv_iload_n hx hb dX1_plainRate_25 rfl (lv_at hl 1 rfl) ?_
      refine lv_iload hx hb dX1_plainRate_26 (lv_at hl 4 rfl) ?_
      refine lv_iload_n hx hb dX1_plainRate_28 rfl (lv_at hl 2 rfl) ?_
      obtain ⟨r29, hr29, hM⟩ := h_b hM
      refine a_callV (σ' := aG r29.2) (v := (some (.int r29.1))) (As := fun ad => [.int y1, .int y4, .int y2]) (rest := [.int (9 : Int32), .int (gI ι (x1 + 3) y4.toNatClampNeg), .int y3]) (o := x1) C hw (c_X2_differenceOf l (hx1) hr29) k_X2_differenceOf wM_X1_55 ⟨⟨rfl, rfl⟩, ⟨Nat.le_of_ble_eq_true rfl, Nat.le_of_ble_eq_true rfl⟩⟩ (aLin_k hx1).1 (by decide) rfl rfl rfl hl rfl (Nat.le_of_ble_eq_true rfl) dX1_plainRate_29 ⟨Nat.zero_le _, Nat.zero_le _⟩ (fun H locs hw => ?_)
      refine lv_isub hx hb dX1_plainRate_32 ?_
      refine lv_imul hx hb dX1_plainRate_33 ?_
      refine lv_iadd hx hb dX1_plainRate_34 ?_
      refine lv_istore_n (lv' := [(3, .int (y3 + ((gI ι (x1 + 3) y4.toNatClampNeg) * ((9 : Int32) - r29.1)))), (0, .ref (ad x1)), (1, .int y1), (2, .int y2), (4, .int y4)]) hx hb dX1_plainRate_35 rfl hl (by decide) rfl (fun ls hl => ?_)
      refine lv_iinc (v := (y4 + 1)) (lv' := [(4, .int (y4 + 1)), (3, .int (y3 + ((gI ι (x1 + 3) y4.toNatClampNeg) * ((9 : Int32) - r29.1)))), (0, .ref (ad x1)), (1, .int y1), (2, .int y2)]) hx hb dX1_plainRate_36 hl (k := 4) rfl rfl (by decide) rfl (fun ls hl => ?_)
      refine lv_goto (tgt := 5) hx hb dX1_plainRate_39 (by decide) ?_
      exact ih (y1) (y2) ((y3 + ((gI ι (x1 + 3) y4.toNatClampNeg) * ((9 : Int32) - r29.1)))) ((y4 + 1)) hM hw (lv_sub hl [2, 3, 4, 1, 0] rfl)
theorem k_X1_plainRate : aCalS yX1_plainRate cX1_plainRate 5 (some .int) 3 := ⟨wS_yX1_plainRate, wZ_X1, wC_yX1_plainRate, by decide +kernel⟩
set_option maxHeartbeats 4000000 in
set_option maxRecDepth 100000 in
theorem c_X1_plainRate (l : Launch) {x1 : Nat} {x2 : Int32} {x3 : Int32} (hx1 : aLin x1 = true) {ι : iS} {res : Int32 × iS} (hM : m_X1_plainRate x1 x2 x3 ι = some res) : aM l yX1_plainRate cX1_plainRate 5 (some .int) rm_X1_plainRate (fun ad => [.ref (ad x1), .int x2, .int x3]) (aG ι) (some (.int res.1)) (aG res.2) := by
  refine aM.of (by decide) (fun _ => Nat.le_of_ble_eq_true rfl) ?_
  intro p e s m args below meth c D dA ad adV A ls C hw hl
  have C : aX p m c cX1_plainRate 5 s args aTs RX1 meth (some .int) := C
  have hx := C.1.1
  have hb := C.1.2.1
  have hml := C.1.2.2.1
  have hown := C.1.2.2.2.1
  have hts := C.1.2.2.2.2
  have hl : lv_has ls 5 [(0, .ref (ad x1)), (1, .int x2), (2, .int x3)] := hl
  unfold m_X1_plainRate at hM
  refine lv_iconst (v := (0 : Int32)) hx hb dX1_plainRate_0 (by decide) ?_
  refine lv_istore_n (lv' := [(3, .int (0 : Int32)), (0, .ref (ad x1)), (1, .int x2), (2, .int x3)]) hx hb dX1_plainRate_1 rfl hl (by decide) rfl (fun ls hl => ?_)
  refine lv_iconst (v := (0 : Int32)) hx hb dX1_plainRate_2 (by decide) ?_
  refine lv_istore (lv' := [(4, .int (0 : Int32)), (3, .int (0 : Int32)), (0, .ref (ad x1)), (1, .int x2), (2, .int x3)]) hx hb dX1_plainRate_3 hl (by decide) rfl (fun ls hl => ?_)
  exact tl_X1_plainRate_5 l C hx1 aF (x2) (x3) ((0 : Int32)) ((0 : Int32)) hM hw (lv_sub hl [2, 3, 4, 1, 0] rfl)
def rm_X1_run : Room := { frames := 3, cells := 0, slots := 0, locals := 76 }
set_option maxHeartbeats 4000000 in
set_option maxRecDepth 100000 in
theorem tl_X1_run_6 (l : Launch) {p : Program} {e : Env} {s : State} {m : MethodId} {args : Array Value} {below : List Frame} {meth : Method} {c : Code} {D : va_G} {dA : Nat → ClassId} {ad adV : Nat → Nat} {A : Nat → Prop} (C : aX p m c cX1_run 8 s args aTs RX1 meth (some .long)) {x1 : Nat} (hx1 : aLin x1 = true) {res : Int64 × iS} : ∀ (n : Nat) (y2 : Int32) (y3 : Int32) (y4 : Int32) (y5 : Int32) {ι : iS}, l_X1_run_6 x1 n y2 y3 y4 y5 ι = some res → ∀ {H : Heap} {locs : List Loc} {ls : Array Slot}, aW D dA ad adV (aG ι) A s H locs → lv_has ls 8 [(0, .ref (ad 21)), (1, .ref (ad x1)), (2, .int y2), (3, .int y3), (4, .int y4), (5, .int y5)] → W p l e rm_X1_run s m args below meth c H locs 0 0 (MQ below (aQ D dA ad (aG res.2) A (some (.long res.1))) args s 0 0 A) (F0 m 6 ls []) := by
  have hx := C.1.1
  have hb := C.1.2.1
  have hml := C.1.2.2.1
  have hown := C.1.2.2.2.1
  have hts := C.1.2.2.2.2
  intro n
  induction n with
  | zero => intro y2 y3 y4 y5 ι hM; simp [l_X1_run_6] at hM
  | succ n ih =>
    intro y2 y3 y4 y5 ι hM H locs ls hw hl
    rw [l_X1_run_6] at hM
    refine lv_iload hx hb dX1_run_6 (lv_at hl 5 rfl) ?_
    refine lv_aload_n hx hb dX1_run_8 rfl (lv_at hl 0 rfl) ?_
    refine a_geti (σ := aG ι) (o := 21) (T := TX1) (N := 3) C wU_X1 hw rfl (by decide) rfl 2 (by decide) rfl wF_X1_19 dX1_run_9 ?_
    refine lv_icmp_ge (tgt := 194) hx hb dX1_run_12 (by decide) (fun hc => ?_) (fun hc => ?_)
    · replace hM := h_t hc hM
      refine lv_aload_n hx hb dX1_run_194 rfl (lv_at hl 0 rfl) ?_
      refine a_getp (q := 23) (σ := aG ι) (o := 21) (T := TX1) (N := 3) C wU_X1 hw rfl (by decide) rfl 1 (by decide) rfl wF_X1_15 (aG_P rfl rfl) dX1_run_195 ?_
      refine lv_iconst (v := (0 : Int32)) hx hb dX1_run_198 (by decide) ?_
      refine a_lald (σ := aG ι) (o := 23) C hw rfl (aIn_v (by decide)) (show (0 : Int32).toNatClampNeg = 0 by decide) dX1_run_199 ?_
      cases h_e hM
      exact a_lret C hw dX1_run_200
    · replace hM := h_f hc hM
      refine lv_aload_n hx hb dX1_run_15 rfl (lv_at hl 0 rfl) ?_
      refine a_getp (q := 22) (σ := aG ι) (o := 21) (T := TX1) (N := 3) C wU_X1 hw rfl (by decide) rfl 0 (by decide) rfl wF_X1_9 (aG_P rfl rfl) dX1_run_16 ?_
      refine lv_iload hx hb dX1_run_19 (lv_at hl 5 rfl) ?_
      obtain ⟨hi, hM⟩ := h_i hM
      refine a_iald (σ := aG ι) (o := 22) C hw rfl hi rfl dX1_run_21 ?_
      refine lv_bipush (v := (7 : Int32)) hx hb dX1_run_22 (by decide) ?_
      refine lv_ishr hx hb dX1_run_24 ?_
      refine lv_istore (lv' := [(6, .int ((gI ι 22 y5.toNatClampNeg) >>> ((7 : Int32) &&& 31))), (0, .ref (ad 21)), (1, .ref (ad x1)), (2, .int y2), (3, .int y3), (4, .int y4), (5, .int y5)]) hx hb dX1_run_25 hl (by decide) rfl (fun ls hl => ?_)
      refine lv_aload_n hx hb dX1_run_27 rfl (lv_at hl 1 rfl) ?_
      refine a_getp (q := 22) (σ := aG ι) (o := 21) (T := TX1) (N := 3) C wU_X1 hw rfl (by decide) rfl 0 (by decide) rfl wF_X1_9 (aG_P rfl rfl) dX1_run_28 ?_
      refine lv_iload hx hb dX1_run_31 (lv_at hl 6 rfl) ?_
      obtain ⟨hi, hM⟩ := h_i hM
      refine a_iald (σ := aG ι) (o := 22) C hw rfl hi rfl dX1_run_33 ?_
      refine lv_bipush (v := (127 : Int32)) hx hb dX1_run_34 (by decide) ?_
      refine lv_iand hx hb dX1_run_36 ?_
      refine lv_istore (lv' := [(7, .int ((gI ι 22 y5.toNatClampNeg) &&& (127 : Int32))), (6, .int ((gI ι 22 y5.toNatClampNeg) >>> ((7 : Int32) &&& 31))), (0, .ref (ad 21)), (1, .ref (ad x1)), (2, .int y2), (3, .int y3), (4, .int y4), (5, .int y5)]) hx hb dX1_run_37 hl (by decide) rfl (fun ls hl => ?_)
      refine lv_iload hx hb dX1_run_39 (lv_at hl 1 rfl) ?_
      refine lv_if_ne (tgt := 67) hx hb dX1_run_41 (by decide) (fun hc => ?_) (fun hc => ?_)
      · replace hM := h_f hc hM
        refine lv_iload hx hb dX1_run_67 (lv_at hl 1 rfl) ?_
        refine lv_iconst (v := (4 : Int32)) hx hb dX1_run_69 (by decide) ?_
        refine lv_icmp_ge (tgt := 109) hx hb dX1_run_70 (by decide) (fun hc => ?_) (fun hc => ?_)
        · replace hM := h_t hc hM
          refine lv_iload hx hb dX1_run_109 (lv_at hl 1 rfl) ?_
          refine lv_iconst (v := (4 : Int32)) hx hb dX1_run_111 (by decide) ?_
          refine lv_icmp_ne (tgt := 143) hx hb dX1_run_112 (by decide) (fun hc => ?_) (fun hc => ?_)
          · replace hM := h_f hc hM
            refine lv_iload hx hb dX1_run_143 (lv_at hl 1 rfl) ?_
            refine lv_iconst (v := (4 : Int32)) hx hb dX1_run_145 (by decide) ?_
            refine lv_icmp_le (tgt := 188) hx hb dX1_run_146 (by decide) (fun hc => ?_) (fun hc => ?_)
            · replace hM := h_t hc hM
              refine lv_iinc (v := (y5 + 1)) (lv' := [(5, .int (y5 + 1)), (7, .int ((gI ι 22 y5.toNatClampNeg) &&& (127 : Int32))), (6, .int ((gI ι 22 y5.toNatClampNeg) >>> ((7 : Int32) &&& 31))), (0, .ref (ad 21)), (1, .ref (ad x1)), (2, .int y2), (3, .int y3), (4, .int y4)]) hx hb dX1_run_188 hl (k := 7) rfl rfl (by decide) rfl (fun ls hl => ?_)
              refine lv_goto (tgt := 6) hx hb dX1_run_191 (by decide) ?_
              exact ih (y2) (y3) (y4) ((y5 + 1)) hM hw (lv_sub hl [3, 4, 5, 6, 7, 0] rfl)
            · replace hM := h_f hc hM
              refine lv_iload hx hb dX1_run_149 (lv_at hl 6 rfl) ?_
              refine lv_iconst (v := (2 : Int32)) hx hb dX1_run_151 (by decide) ?_
              refine lv_icmp_lt (tgt := 188) hx hb dX1_run_152 (by decide) (fun hc => ?_) (fun hc => ?_)
              · replace hM := h_t hc hM
                refine lv_iinc (v := (y5 + 1)) (lv' := [(5, .int (y5 + 1)), (7, .int ((gI ι 22 y5.toNatClampNeg) &&& (127 : Int32))), (6, .int ((gI ι 22 y5.toNatClampNeg) >>> ((7 : Int32) &&& 31))), (0, .ref (ad 21)), (1, .ref (ad x1)), (2, .int y2), (3, .int y3), (4, .int y4)]) hx hb dX1_run_188 hl (k := 7) rfl rfl (by decide) rfl (fun ls hl => ?_)
                refine lv_goto (tgt := 6) hx hb dX1_run_191 (by decide) ?_
                exact ih (y2) (y3) (y4) ((y5 + 1)) hM hw (lv_sub hl [3, 4, 5, 6, 7, 0] rfl)
              · replace hM := h_f hc hM
                refine lv_iinc (v := (y4 + (-1))) (lv' := [(4, .int (y4 + (-1))), (7, .int ((gI ι 22 y5.toNatClampNeg) &&& (127 : Int32))), (6, .int ((gI ι 22 y5.toNatClampNeg) >>> ((7 : Int32) &&& 31))), (0, .ref (ad 21)), (1, .ref (ad x1)), (2, .int y2), (3, .int y3), (5, .int y5)]) hx hb dX1_run_155 hl (k := 6) rfl rfl (by decide) rfl (fun ls hl => ?_)
                refine lv_aload_n hx hb dX1_run_158 rfl (lv_at hl 3 rfl) ?_
                refine a_getp (q := 23) (σ := aG ι) (o := 21) (T := TX1) (N := 3) C wU_X1 hw rfl (by decide) rfl 1 (by decide) rfl wF_X1_15 (aG_P rfl rfl) dX1_run_159 ?_
                refine lv_iload hx hb dX1_run_162 (lv_at hl 0 rfl) ?_
                refine lv_iconst (v := (1 : Int32)) hx hb dX1_run_164 (by decide) ?_
                refine lv_isub hx hb dX1_run_165 ?_
                refine lv_iload hx hb dX1_run_166 (lv_at hl 2 rfl) ?_
                refine lv_aload_n hx hb dX1_run_168 rfl (lv_at hl 3 rfl) ?_
                refine a_getp (q := 23) (σ := aG ι) (o := 21) (T := TX1) (N := 3) C wU_X1 hw rfl (by decide) rfl 1 (by decide) rfl wF_X1_15 (aG_P rfl rfl) dX1_run_169 ?_
                refine lv_iload hx hb dX1_run_172 (lv_at hl 0 rfl) ?_
                refine lv_iconst (v := (1 : Int32)) hx hb dX1_run_174 (by decide) ?_
                refine lv_isub hx hb dX1_run_175 ?_
                obtain ⟨hi, hM⟩ := h_i hM
                refine a_lald (σ := aG ι) (o := 23) C hw rfl hi rfl dX1_run_176 ?_
                refine lv_aload_n hx hb dX1_run_177 rfl (lv_at hl 3 rfl) ?_
                refine a_getp (q := 23) (σ := aG ι) (o := 21) (T := TX1) (N := 3) C wU_X1 hw rfl (by decide) rfl 1 (by decide) rfl wF_X1_15 (aG_P rfl rfl) dX1_run_178 ?_
                refine lv_iload hx hb dX1_run_181 (lv_at hl 0 rfl) ?_
                obtain ⟨hi, hM⟩ := h_i hM
                refine a_lald (σ := aG ι) (o := 23) C hw rfl hi rfl dX1_run_183 ?_
                obtain ⟨r184, hr184, hM⟩ := h_b hM
                refine a_callS  (σ' := aG r184.2) (v := (some (.long r184.1))) (as := fun ad => [.int ((gI ι 22 y5.toNatClampNeg) >>> ((7 : Int32) &&& 31)), .long (gJ ι 23 ((y4 + (-1)) - (1 : Int32)).toNatClampNeg), .long (gJ ι 23 (y4 + (-1)).toNatClampNeg)]) (rest := [.int ((y4 + (-1)) - (1 : Int32)), .ref (ad 23)]) C hw (c_X1_joined l hr184) k_X1_joined wM_X1_63 ⟨⟨rfl, rfl⟩, ⟨Nat.le_of_ble_eq_true rfl, Nat.le_of_ble_eq_true rfl⟩⟩ rfl hl rfl (Nat.le_of_ble_eq_true rfl) dX1_run_184 ⟨Nat.zero_le _, Nat.zero_le _⟩ (fun H locs hw => ?_)
                obtain ⟨hi, hM⟩ := h_i hM
                refine a_last (σ := aG r184.2) (o := 23) C hw rfl hi rfl dX1_run_187 (fun H locs hw => ?_)
                have hw : aW D dA ad adV (aG (pJ r184.2 23 ((y4 + (-1)) - (1 : Int32)).toNatClampNeg r184.1)) A s H locs := hw
                refine lv_iinc (v := (y5 + 1)) (lv' := [(5, .int (y5 + 1)), (4, .int (y4 + (-1))), (7, .int ((gI ι 22 y5.toNatClampNeg) &&& (127 : Int32))), (6, .int ((gI ι 22 y5.toNatClampNeg) >>> ((7 : Int32) &&& 31))), (0, .ref (ad 21)), (1, .ref (ad x1)), (2, .int y2), (3, .int y3)]) hx hb dX1_run_188 hl (k := 7) rfl rfl (by decide) rfl (fun ls hl => ?_)
                refine lv_goto (tgt := 6) hx hb dX1_run_191 (by decide) ?_
                exact ih (y2) (y3) ((y4 + (-1))) ((y5 + 1)) hM hw (lv_sub hl [4, 5, 6, 7, 1, 0] rfl)
          · replace hM := h_t hc hM
            refine lv_iload hx hb dX1_run_115 (lv_at hl 6 rfl) ?_
            refine lv_iconst (v := (1 : Int32)) hx hb dX1_run_117 (by decide) ?_
            refine lv_icmp_lt (tgt := 143) hx hb dX1_run_118 (by decide) (fun hc => ?_) (fun hc => ?_)
            · replace hM := h_t hc hM
              refine lv_iload hx hb dX1_run_143 (lv_at hl 1 rfl) ?_
              refine lv_iconst (v := (4 : Int32)) hx hb dX1_run_145 (by decide) ?_
              refine lv_icmp_le (tgt := 188) hx hb dX1_run_146 (by decide) (fun hc => ?_) (fun hc => ?_)
              · replace hM := h_t hc hM
                refine lv_iinc (v := (y5 + 1)) (lv' := [(5, .int (y5 + 1)), (7, .int ((gI ι 22 y5.toNatClampNeg) &&& (127 : Int32))), (6, .int ((gI ι 22 y5.toNatClampNeg) >>> ((7 : Int32) &&& 31))), (0, .ref (ad 21)), (1, .ref (ad x1)), (2, .int y2), (3, .int y3), (4, .int y4)]) hx hb dX1_run_188 hl (k := 7) rfl rfl (by decide) rfl (fun ls hl => ?_)
                refine lv_goto (tgt := 6) hx hb dX1_run_191 (by decide) ?_
                exact ih (y2) (y3) (y4) ((y5 + 1)) hM hw (lv_sub hl [3, 4, 5, 6, 7, 0] rfl)
              · replace hM := h_f hc hM
                refine lv_iload hx hb dX1_run_149 (lv_at hl 6 rfl) ?_
                refine lv_iconst (v := (2 : Int32)) hx hb dX1_run_151 (by decide) ?_
                refine lv_icmp_lt (tgt := 188) hx hb dX1_run_152 (by decide) (fun hc => ?_) (fun hc => ?_)
                · replace hM := h_t hc hM
                  refine lv_iinc (v := (y5 + 1)) (lv' := [(5, .int (y5 + 1)), (7, .int ((gI ι 22 y5.toNatClampNeg) &&& (127 : Int32))), (6, .int ((gI ι 22 y5.toNatClampNeg) >>> ((7 : Int32) &&& 31))), (0, .ref (ad 21)), (1, .ref (ad x1)), (2, .int y2), (3, .int y3), (4, .int y4)]) hx hb dX1_run_188 hl (k := 7) rfl rfl (by decide) rfl (fun ls hl => ?_)
                  refine lv_goto (tgt := 6) hx hb dX1_run_191 (by decide) ?_
                  exact ih (y2) (y3) (y4) ((y5 + 1)) hM hw (lv_sub hl [3, 4, 5, 6, 7, 0] rfl)
                · replace hM := h_f hc hM
                  refine lv_iinc (v := (y4 + (-1))) (lv' := [(4, .int (y4 + (-1))), (7, .int ((gI ι 22 y5.toNatClampNeg) &&& (127 : Int32))), (6, .int ((gI ι 22 y5.toNatClampNeg) >>> ((7 : Int32) &&& 31))), (0, .ref (ad 21)), (1, .ref (ad x1)), (2, .int y2), (3, .int y3), (5, .int y5)]) hx hb dX1_run_155 hl (k := 6) rfl rfl (by decide) rfl (fun ls hl => ?_)
                  refine lv_aload_n hx hb dX1_run_158 rfl (lv_at hl 3 rfl) ?_
                  refine a_getp (q := 23) (σ := aG ι) (o := 21) (T := TX1) (N := 3) C wU_X1 hw rfl (by decide) rfl 1 (by decide) rfl wF_X1_15 (aG_P rfl rfl) dX1_run_159 ?_
                  refine lv_iload hx hb dX1_run_162 (lv_at hl 0 rfl) ?_
                  refine lv_iconst (v := (1 : Int32)) hx hb dX1_run_164 (by decide) ?_
                  refine lv_isub hx hb dX1_run_165 ?_
                  refine lv_iload hx hb dX1_run_166 (lv_at hl 2 rfl) ?_
                  refine lv_aload_n hx hb dX1_run_168 rfl (lv_at hl 3 rfl) ?_
                  refine a_getp (q := 23) (σ := aG ι) (o := 21) (T := TX1) (N := 3) C wU_X1 hw rfl (by decide) rfl 1 (by decide) rfl wF_X1_15 (aG_P rfl rfl) dX1_run_169 ?_
                  refine lv_iload hx hb dX1_run_172 (lv_at hl 0 rfl) ?_
                  refine lv_iconst (v := (1 : Int32)) hx hb dX1_run_174 (by decide) ?_
                  refine lv_isub hx hb dX1_run_175 ?_
                  obtain ⟨hi, hM⟩ := h_i hM
                  refine a_lald (σ := aG ι) (o := 23) C hw rfl hi rfl dX1_run_176 ?_
                  refine lv_aload_n hx hb dX1_run_177 rfl (lv_at hl 3 rfl) ?_
                  refine a_getp (q := 23) (σ := aG ι) (o := 21) (T := TX1) (N := 3) C wU_X1 hw rfl (by decide) rfl 1 (by decide) rfl wF_X1_15 (aG_P rfl rfl) dX1_run_178 ?_
                  refine lv_iload hx hb dX1_run_181 (lv_at hl 0 rfl) ?_
                  obtain ⟨hi, hM⟩ := h_i hM
                  refine a_lald (σ := aG ι) (o := 23) C hw rfl hi rfl dX1_run_183 ?_
                  obtain ⟨r184, hr184, hM⟩ := h_b hM
                  refine a_callS  (σ' := aG r184.2) (v := (some (.long r184.1))) (as := fun ad => [.int ((gI ι 22 y5.toNatClampNeg) >>> ((7 : Int32) &&& 31)), .long (gJ ι 23 ((y4 + (-1)) - (1 : Int32)).toNatClampNeg), .long (gJ ι 23 (y4 + (-1)).toNatClampNeg)]) (rest := [.int ((y4 + (-1)) - (1 : Int32)), .ref (ad 23)]) C hw (c_X1_joined l hr184) k_X1_joined wM_X1_63 ⟨⟨rfl, rfl⟩, ⟨Nat.le_of_ble_eq_true rfl, Nat.le_of_ble_eq_true rfl⟩⟩ rfl hl rfl (Nat.le_of_ble_eq_true rfl) dX1_run_184 ⟨Nat.zero_le _, Nat.zero_le _⟩ (fun H locs hw => ?_)
                  obtain ⟨hi, hM⟩ := h_i hM
                  refine a_last (σ := aG r184.2) (o := 23) C hw rfl hi rfl dX1_run_187 (fun H locs hw => ?_)
                  have hw : aW D dA ad adV (aG (pJ r184.2 23 ((y4 + (-1)) - (1 : Int32)).toNatClampNeg r184.1)) A s H locs := hw
                  refine lv_iinc (v := (y5 + 1)) (lv' := [(5, .int (y5 + 1)), (4, .int (y4 + (-1))), (7, .int ((gI ι 22 y5.toNatClampNeg) &&& (127 : Int32))), (6, .int ((gI ι 22 y5.toNatClampNeg) >>> ((7 : Int32) &&& 31))), (0, .ref (ad 21)), (1, .ref (ad x1)), (2, .int y2), (3, .int y3)]) hx hb dX1_run_188 hl (k := 7) rfl rfl (by decide) rfl (fun ls hl => ?_)
                  refine lv_goto (tgt := 6) hx hb dX1_run_191 (by decide) ?_
                  exact ih (y2) (y3) ((y4 + (-1))) ((y5 + 1)) hM hw (lv_sub hl [4, 5, 6, 7, 1, 0] rfl)
            · replace hM := h_f hc hM
              refine lv_aload_n hx hb dX1_run_121 rfl (lv_at hl 2 rfl) ?_
              refine a_getp (q := 23) (σ := aG ι) (o := 21) (T := TX1) (N := 3) C wU_X1 hw rfl (by decide) rfl 1 (by decide) rfl wF_X1_15 (aG_P rfl rfl) dX1_run_122 ?_
              refine lv_iload hx hb dX1_run_125 (lv_at hl 6 rfl) ?_
              refine lv_iconst (v := (1 : Int32)) hx hb dX1_run_127 (by decide) ?_
              refine lv_isub hx hb dX1_run_128 ?_
              refine lv_aload_n hx hb dX1_run_129 rfl (lv_at hl 2 rfl) ?_
              refine a_getp (q := 23) (σ := aG ι) (o := 21) (T := TX1) (N := 3) C wU_X1 hw rfl (by decide) rfl 1 (by decide) rfl wF_X1_15 (aG_P rfl rfl) dX1_run_130 ?_
              refine lv_iload hx hb dX1_run_133 (lv_at hl 6 rfl) ?_
              refine lv_iconst (v := (1 : Int32)) hx hb dX1_run_135 (by decide) ?_
              refine lv_isub hx hb dX1_run_136 ?_
              obtain ⟨hi, hM⟩ := h_i hM
              refine a_lald (σ := aG ι) (o := 23) C hw rfl hi rfl dX1_run_137 ?_
              refine lv_lneg hx hb dX1_run_138 ?_
              obtain ⟨hi, hM⟩ := h_i hM
              refine a_last (σ := aG ι) (o := 23) C hw rfl hi rfl dX1_run_139 (fun H locs hw => ?_)
              have hw : aW D dA ad adV (aG (pJ ι 23 (y4 - (1 : Int32)).toNatClampNeg (-(gJ ι 23 (y4 - (1 : Int32)).toNatClampNeg)))) A s H locs := hw
              refine lv_goto (tgt := 188) hx hb dX1_run_140 (by decide) ?_
              refine lv_iinc (v := (y5 + 1)) (lv' := [(5, .int (y5 + 1)), (7, .int ((gI ι 22 y5.toNatClampNeg) &&& (127 : Int32))), (6, .int ((gI ι 22 y5.toNatClampNeg) >>> ((7 : Int32) &&& 31))), (0, .ref (ad 21)), (1, .ref (ad x1)), (2, .int y2), (3, .int y3), (4, .int y4)]) hx hb dX1_run_188 hl (k := 7) rfl rfl (by decide) rfl (fun ls hl => ?_)
              refine lv_goto (tgt := 6) hx hb dX1_run_191 (by decide) ?_
              exact ih (y2) (y3) (y4) ((y5 + 1)) hM hw (lv_sub hl [3, 4, 5, 6, 7, 0] rfl)
        · replace hM := h_f hc hM
          refine lv_iload hx hb dX1_run_73 (lv_at hl 6 rfl) ?_
          refine lv_bipush (v := (16 : Int32)) hx hb dX1_run_75 (by decide) ?_
          refine lv_icmp_ge (tgt := 109) hx hb dX1_run_77 (by decide) (fun hc => ?_) (fun hc => ?_)
          · replace hM := h_t hc hM
            refine lv_iload hx hb dX1_run_109 (lv_at hl 1 rfl) ?_
            refine lv_iconst (v := (4 : Int32)) hx hb dX1_run_111 (by decide) ?_
            refine lv_icmp_ne (tgt := 143) hx hb dX1_run_112 (by decide) (fun hc => ?_) (fun hc => ?_)
            · replace hM := h_f hc hM
              refine lv_iload hx hb dX1_run_143 (lv_at hl 1 rfl) ?_
              refine lv_iconst (v := (4 : Int32)) hx hb dX1_run_145 (by decide) ?_
              refine lv_icmp_le (tgt := 188) hx hb dX1_run_146 (by decide) (fun hc => ?_) (fun hc => ?_)
              · replace hM := h_t hc hM
                refine lv_iinc (v := (y5 + 1)) (lv' := [(5, .int (y5 + 1)), (7, .int ((gI ι 22 y5.toNatClampNeg) &&& (127 : Int32))), (6, .int ((gI ι 22 y5.toNatClampNeg) >>> ((7 : Int32) &&& 31))), (0, .ref (ad 21)), (1, .ref (ad x1)), (2, .int y2), (3, .int y3), (4, .int y4)]) hx hb dX1_run_188 hl (k := 7) rfl rfl (by decide) rfl (fun ls hl => ?_)
                refine lv_goto (tgt := 6) hx hb dX1_run_191 (by decide) ?_
                exact ih (y2) (y3) (y4) ((y5 + 1)) hM hw (lv_sub hl [3, 4, 5, 6, 7, 0] rfl)
              · replace hM := h_f hc hM
                refine lv_iload hx hb dX1_run_149 (lv_at hl 6 rfl) ?_
                refine lv_iconst (v := (2 : Int32)) hx hb dX1_run_151 (by decide) ?_
                refine lv_icmp_lt (tgt := 188) hx hb dX1_run_152 (by decide) (fun hc => ?_) (fun hc => ?_)
                · replace hM := h_t hc hM
                  refine lv_iinc (v := (y5 + 1)) (lv' := [(5, .int (y5 + 1)), (7, .int ((gI ι 22 y5.toNatClampNeg) &&& (127 : Int32))), (6, .int ((gI ι 22 y5.toNatClampNeg) >>> ((7 : Int32) &&& 31))), (0, .ref (ad 21)), (1, .ref (ad x1)), (2, .int y2), (3, .int y3), (4, .int y4)]) hx hb dX1_run_188 hl (k := 7) rfl rfl (by decide) rfl (fun ls hl => ?_)
                  refine lv_goto (tgt := 6) hx hb dX1_run_191 (by decide) ?_
                  exact ih (y2) (y3) (y4) ((y5 + 1)) hM hw (lv_sub hl [3, 4, 5, 6, 7, 0] rfl)
                · replace hM := h_f hc hM
                  refine lv_iinc (v := (y4 + (-1))) (lv' := [(4, .int (y4 + (-1))), (7, .int ((gI ι 22 y5.toNatClampNeg) &&& (127 : Int32))), (6, .int ((gI ι 22 y5.toNatClampNeg) >>> ((7 : Int32) &&& 31))), (0, .ref (ad 21)), (1, .ref (ad x1)), (2, .int y2), (3, .int y3), (5, .int y5)]) hx hb dX1_run_155 hl (k := 6) rfl rfl (by decide) rfl (fun ls hl => ?_)
                  refine lv_aload_n hx hb dX1_run_158 rfl (lv_at hl 3 rfl) ?_
                  refine a_getp (q := 23) (σ := aG ι) (o := 21) (T := TX1) (N := 3) C wU_X1 hw rfl (by decide) rfl 1 (by decide) rfl wF_X1_15 (aG_P rfl rfl) dX1_run_159 ?_
                  refine lv_iload hx hb dX1_run_162 (lv_at hl 0 rfl) ?_
                  refine lv_iconst (v := (1 : Int32)) hx hb dX1_run_164 (by decide) ?_
                  refine lv_isub hx hb dX1_run_165 ?_
                  refine lv_iload hx hb dX1_run_166 (lv_at hl 2 rfl) ?_
                  refine lv_aload_n hx hb dX1_run_168 rfl (lv_at hl 3 rfl) ?_
                  refine a_getp (q := 23) (σ := aG ι) (o := 21) (T := TX1) (N := 3) C wU_X1 hw rfl (by decide) rfl 1 (by decide) rfl wF_X1_15 (aG_P rfl rfl) dX1_run_169 ?_
                  refine lv_iload hx hb dX1_run_172 (lv_at hl 0 rfl) ?_
                  refine lv_iconst (v := (1 : Int32)) hx hb dX1_run_174 (by decide) ?_
                  refine lv_isub hx hb dX1_run_175 ?_
                  obtain ⟨hi, hM⟩ := h_i hM
                  refine a_lald (σ := aG ι) (o := 23) C hw rfl hi rfl dX1_run_176 ?_
                  refine lv_aload_n hx hb dX1_run_177 rfl (lv_at hl 3 rfl) ?_
                  refine a_getp (q := 23) (σ := aG ι) (o := 21) (T := TX1) (N := 3) C wU_X1 hw rfl (by decide) rfl 1 (by decide) rfl wF_X1_15 (aG_P rfl rfl) dX1_run_178 ?_
                  refine lv_iload hx hb dX1_run_181 (lv_at hl 0 rfl) ?_
                  obtain ⟨hi, hM⟩ := h_i hM
                  refine a_lald (σ := aG ι) (o := 23) C hw rfl hi rfl dX1_run_183 ?_
                  obtain ⟨r184, hr184, hM⟩ := h_b hM
                  refine a_callS  (σ' := aG r184.2) (v := (some (.long r184.1))) (as := fun ad => [.int ((gI ι 22 y5.toNatClampNeg) >>> ((7 : Int32) &&& 31)), .long (gJ ι 23 ((y4 + (-1)) - (1 : Int32)).toNatClampNeg), .long (gJ ι 23 (y4 + (-1)).toNatClampNeg)]) (rest := [.int ((y4 + (-1)) - (1 : Int32)), .ref (ad 23)]) C hw (c_X1_joined l hr184) k_X1_joined wM_X1_63 ⟨⟨rfl, rfl⟩, ⟨Nat.le_of_ble_eq_true rfl, Nat.le_of_ble_eq_true rfl⟩⟩ rfl hl rfl (Nat.le_of_ble_eq_true rfl) dX1_run_184 ⟨Nat.zero_le _, Nat.zero_le _⟩ (fun H locs hw => ?_)
                  obtain ⟨hi, hM⟩ := h_i hM
                  refine a_last (σ := aG r184.2) (o := 23) C hw rfl hi rfl dX1_run_187 (fun H locs hw => ?_)
                  have hw : aW D dA ad adV (aG (pJ r184.2 23 ((y4 + (-1)) - (1 : Int32)).toNatClampNeg r184.1)) A s H locs := hw
                  refine lv_iinc (v := (y5 + 1)) (lv' := [(5, .int (y5 + 1)), (4, .int (y4 + (-1))), (7, .int ((gI ι 22 y5.toNatClampNeg) &&& (127 : Int32))), (6, .int ((gI ι 22 y5.toNatClampNeg) >>> ((7 : Int32) &&& 31))), (0, .ref (ad 21)), (1, .ref (ad x1)), (2, .int y2), (3, .int y3)]) hx hb dX1_run_188 hl (k := 7) rfl rfl (by decide) rfl (fun ls hl => ?_)
                  refine lv_goto (tgt := 6) hx hb dX1_run_191 (by decide) ?_
                  exact ih (y2) (y3) ((y4 + (-1))) ((y5 + 1)) hM hw (lv_sub hl [4, 5, 6, 7, 1, 0] rfl)
            · replace hM := h_t hc hM
              refine lv_iload hx hb dX1_run_115 (lv_at hl 6 rfl) ?_
              refine lv_iconst (v := (1 : Int32)) hx hb dX1_run_117 (by decide) ?_
              refine lv_icmp_lt (tgt := 143) hx hb dX1_run_118 (by decide) (fun hc => ?_) (fun hc => ?_)
              · replace hM := h_t hc hM
                refine lv_iload hx hb dX1_run_143 (lv_at hl 1 rfl) ?_
                refine lv_iconst (v := (4 : Int32)) hx hb dX1_run_145 (by decide) ?_
                refine lv_icmp_le (tgt := 188) hx hb dX1_run_146 (by decide) (fun hc => ?_) (fun hc => ?_)
                · replace hM := h_t hc hM
                  refine lv_iinc (v := (y5 + 1)) (lv' := [(5, .int (y5 + 1)), (7, .int ((gI ι 22 y5.toNatClampNeg) &&& (127 : Int32))), (6, .int ((gI ι 22 y5.toNatClampNeg) >>> ((7 : Int32) &&& 31))), (0, .ref (ad 21)), (1, .ref (ad x1)), (2, .int y2), (3, .int y3), (4, .int y4)]) hx hb dX1_run_188 hl (k := 7) rfl rfl (by decide) rfl (fun ls hl => ?_)
                  refine lv_goto (tgt := 6) hx hb dX1_run_191 (by decide) ?_
                  exact ih (y2) (y3) (y4) ((y5 + 1)) hM hw (lv_sub hl [3, 4, 5, 6, 7, 0] rfl)
                · replace hM := h_f hc hM
                  refine lv_iload hx hb dX1_run_149 (lv_at hl 6 rfl) ?_
                  refine lv_iconst (v := (2 : Int32)) hx hb dX1_run_151 (by decide) ?_
                  refine lv_icmp_lt (tgt := 188) hx hb dX1_run_152 (by decide) (fun hc => ?_) (fun hc => ?_)
                  · replace hM := h_t hc hM
                    refine lv_iinc (v := (y5 + 1)) (lv' := [(5, .int (y5 + 1)), (7, .int ((gI ι 22 y5.toNatClampNeg) &&& (127 : Int32))), (6, .int ((gI ι 22 y5.toNatClampNeg) >>> ((7 : Int32) &&& 31))), (0, .ref (ad 21)), (1, .ref (ad x1)), (2, .int y2), (3, .int y3), (4, .int y4)]) hx hb dX1_run_188 hl (k := 7) rfl rfl (by decide) rfl (fun ls hl => ?_)
                    refine lv_goto (tgt := 6) hx hb dX1_run_191 (by decide) ?_
                    exact ih (y2) (y3) (y4) ((y5 + 1)) hM hw (lv_sub hl [3, 4, 5, 6, 7, 0] rfl)
                  · replace hM := h_f hc hM
                    refine lv_iinc (v := (y4 + (-1))) (lv' := [(4, .int (y4 + (-1))), (7, .int ((gI ι 22 y5.toNatClampNeg) &&& (127 : Int32))), (6, .int ((gI ι 22 y5.toNatClampNeg) >>> ((7 : Int32) &&& 31))), (0, .ref (ad 21)), (1, .ref (ad x1)), (2, .int y2), (3, .int y3), (5, .int y5)]) hx hb dX1_run_155 hl (k := 6) rfl rfl (by decide) rfl (fun ls hl => ?_)
                    refine lv_aload_n hx hb dX1_run_158 rfl (lv_at hl 3 rfl) ?_
                    refine a_getp (q := 23) (σ := aG ι) (o := 21) (T := TX1) (N := 3) C wU_X1 hw rfl (by decide) rfl 1 (by decide) rfl wF_X1_15 (aG_P rfl rfl) dX1_run_159 ?_
                    refine lv_iload hx hb dX1_run_162 (lv_at hl 0 rfl) ?_
                    refine lv_iconst (v := (1 : Int32)) hx hb dX1_run_164 (by decide) ?_
                    refine lv_isub hx hb dX1_run_165 ?_
                    refine lv_iload hx hb dX1_run_166 (lv_at hl 2 rfl) ?_
                    refine lv_aload_n hx hb dX1_run_168 rfl (lv_at hl 3 rfl) ?_
                    refine a_getp (q := 23) (σ := aG ι) (o := 21) (T := TX1) (N := 3) C wU_X1 hw rfl (by decide) rfl 1 (by decide) rfl wF_X1_15 (aG_P rfl rfl) dX1_run_169 ?_
                    refine lv_iload hx hb dX1_run_172 (lv_at hl 0 rfl) ?_
                    refine lv_iconst (v := (1 : Int32)) hx hb dX1_run_174 (by decide) ?_
                    refine lv_isub hx hb dX1_run_175 ?_
                    obtain ⟨hi, hM⟩ := h_i hM
                    refine a_lald (σ := aG ι) (o := 23) C hw rfl hi rfl dX1_run_176 ?_
                    refine lv_aload_n hx hb dX1_run_177 rfl (lv_at hl 3 rfl) ?_
                    refine a_getp (q := 23) (σ := aG ι) (o := 21) (T := TX1) (N := 3) C wU_X1 hw rfl (by decide) rfl 1 (by decide) rfl wF_X1_15 (aG_P rfl rfl) dX1_run_178 ?_
                    refine lv_iload hx hb dX1_run_181 (lv_at hl 0 rfl) ?_
                    obtain ⟨hi, hM⟩ := h_i hM
                    refine a_lald (σ := aG ι) (o := 23) C hw rfl hi rfl dX1_run_183 ?_
                    obtain ⟨r184, hr184, hM⟩ := h_b hM
                    refine a_callS  (σ' := aG r184.2) (v := (some (.long r184.1))) (as := fun ad => [.int ((gI ι 22 y5.toNatClampNeg) >>> ((7 : Int32) &&& 31)), .long (gJ ι 23 ((y4 + (-1)) - (1 : Int32)).toNatClampNeg), .long (gJ ι 23 (y4 + (-1)).toNatClampNeg)]) (rest := [.int ((y4 + (-1)) - (1 : Int32)), .ref (ad 23)]) C hw (c_X1_joined l hr184) k_X1_joined wM_X1_63 ⟨⟨rfl, rfl⟩, ⟨Nat.le_of_ble_eq_true rfl, Nat.le_of_ble_eq_true rfl⟩⟩ rfl hl rfl (Nat.le_of_ble_eq_true rfl) dX1_run_184 ⟨Nat.zero_le _, Nat.zero_le _⟩ (fun H locs hw => ?_)
                    obtain ⟨hi, hM⟩ := h_i hM
                    refine a_last (σ := aG r184.2) (o := 23) C hw rfl hi rfl dX1_run_187 (fun H locs hw => ?_)
                    have hw : aW D dA ad adV (aG (pJ r184.2 23 ((y4 + (-1)) - (1 : Int32)).toNatClampNeg r184.1)) A s H locs := hw
                    refine lv_iinc (v := (y5 + 1)) (lv' := [(5, .int (y5 + 1)), (4, .int (y4 + (-1))), (7, .int ((gI ι 22 y5.toNatClampNeg) &&& (127 : Int32))), (6, .int ((gI ι 22 y5.toNatClampNeg) >>> ((7 : Int32) &&& 31))), (0, .ref (ad 21)), (1, .ref (ad x1)), (2, .int y2), (3, .int y3)]) hx hb dX1_run_188 hl (k := 7) rfl rfl (by decide) rfl (fun ls hl => ?_)
                    refine lv_goto (tgt := 6) hx hb dX1_run_191 (by decide) ?_
                    exact ih (y2) (y3) ((y4 + (-1))) ((y5 + 1)) hM hw (lv_sub hl [4, 5, 6, 7, 1, 0] rfl)
              · replace hM := h_f hc hM
                refine lv_aload_n hx hb dX1_run_121 rfl (lv_at hl 2 rfl) ?_
                refine a_getp (q := 23) (σ := aG ι) (o := 21) (T := TX1) (N := 3) C wU_X1 hw rfl (by decide) rfl 1 (by decide) rfl wF_X1_15 (aG_P rfl rfl) dX1_run_122 ?_
                refine lv_iload hx hb dX1_run_125 (lv_at hl 6 rfl) ?_
                refine lv_iconst (v := (1 : Int32)) hx hb dX1_run_127 (by decide) ?_
                refine lv_isub hx hb dX1_run_128 ?_
                refine lv_aload_n hx hb dX1_run_129 rfl (lv_at hl 2 rfl) ?_
                refine a_getp (q := 23) (σ := aG ι) (o := 21) (T := TX1) (N := 3) C wU_X1 hw rfl (by decide) rfl 1 (by decide) rfl wF_X1_15 (aG_P rfl rfl) dX1_run_130 ?_
                refine lv_iload hx hb dX1_run_133 (lv_at hl 6 rfl) ?_
                refine lv_iconst (v := (1 : Int32)) hx hb dX1_run_135 (by decide) ?_
                refine lv_isub hx hb dX1_run_136 ?_
                obtain ⟨hi, hM⟩ := h_i hM
                refine a_lald (σ := aG ι) (o := 23) C hw rfl hi rfl dX1_run_137 ?_
                refine lv_lneg hx hb dX1_run_138 ?_
                obtain ⟨hi, hM⟩ := h_i hM
                refine a_last (σ := aG ι) (o := 23) C hw rfl hi rfl dX1_run_139 (fun H locs hw => ?_)
                have hw : aW D dA ad adV (aG (pJ ι 23 (y4 - (1 : Int32)).toNatClampNeg (-(gJ ι 23 (y4 - (1 : Int32)).toNatClampNeg)))) A s H locs := hw
                refine lv_goto (tgt := 188) hx hb dX1_run_140 (by decide) ?_
                refine lv_iinc (v := (y5 + 1)) (lv' := [(5, .int (y5 + 1)), (7, .int ((gI ι 22 y5.toNatClampNeg) &&& (127 : Int32))), (6, .int ((gI ι 22 y5.toNatClampNeg) >>> ((7 : Int32) &&& 31))), (0, .ref (ad 21)), (1, .ref (ad x1)), (2, .int y2), (3, .int y3), (4, .int y4)]) hx hb dX1_run_188 hl (k := 7) rfl rfl (by decide) rfl (fun ls hl => ?_)
                refine lv_goto (tgt := 6) hx hb dX1_run_191 (by decide) ?_
                exact ih (y2) (y3) (y4) ((y5 + 1)) hM hw (lv_sub hl [3, 4, 5, 6, 7, 0] rfl)
          · replace hM := h_f hc hM
            refine lv_iload hx hb dX1_run_80 (lv_at hl 0 rfl) ?_
            refine lv_iconst (v := (5 : Int32)) hx hb dX1_run_82 (by decide) ?_
            refine lv_icmp_ge (tgt := 109) hx hb dX1_run_83 (by decide) (fun hc => ?_) (fun hc => ?_)
            · replace hM := h_t hc hM
              refine lv_iload hx hb dX1_run_109 (lv_at hl 1 rfl) ?_
              refine lv_iconst (v := (4 : Int32)) hx hb dX1_run_111 (by decide) ?_
              refine lv_icmp_ne (tgt := 143) hx hb dX1_run_112 (by decide) (fun hc => ?_) (fun hc => ?_)
              · replace hM := h_f hc hM
                refine lv_iload hx hb dX1_run_143 (lv_at hl 1 rfl) ?_
                refine lv_iconst (v := (4 : Int32)) hx hb dX1_run_145 (by decide) ?_
                refine lv_icmp_le (tgt := 188) hx hb dX1_run_146 (by decide) (fun hc => ?_) (fun hc => ?_)
                · replace hM := h_t hc hM
                  refine lv_iinc (v := (y5 + 1)) (lv' := [(5, .int (y5 + 1)), (7, .int ((gI ι 22 y5.toNatClampNeg) &&& (127 : Int32))), (6, .int ((gI ι 22 y5.toNatClampNeg) >>> ((7 : Int32) &&& 31))), (0, .ref (ad 21)), (1, .ref (ad x1)), (2, .int y2), (3, .int y3), (4, .int y4)]) hx hb dX1_run_188 hl (k := 7) rfl rfl (by decide) rfl (fun ls hl => ?_)
                  refine lv_goto (tgt := 6) hx hb dX1_run_191 (by decide) ?_
                  exact ih (y2) (y3) (y4) ((y5 + 1)) hM hw (lv_sub hl [3, 4, 5, 6, 7, 0] rfl)
                · replace hM := h_f hc hM
                  refine lv_iload hx hb dX1_run_149 (lv_at hl 6 rfl) ?_
                  refine lv_iconst (v := (2 : Int32)) hx hb dX1_run_151 (by decide) ?_
                  refine lv_icmp_lt (tgt := 188) hx hb dX1_run_152 (by decide) (fun hc => ?_) (fun hc => ?_)
                  · replace hM := h_t hc hM
                    refine lv_iinc (v := (y5 + 1)) (lv' := [(5, .int (y5 + 1)), (7, .int ((gI ι 22 y5.toNatClampNeg) &&& (127 : Int32))), (6, .int ((gI ι 22 y5.toNatClampNeg) >>> ((7 : Int32) &&& 31))), (0, .ref (ad 21)), (1, .ref (ad x1)), (2, .int y2), (3, .int y3), (4, .int y4)]) hx hb dX1_run_188 hl (k := 7) rfl rfl (by decide) rfl (fun ls hl => ?_)
                    refine lv_goto (tgt := 6) hx hb dX1_run_191 (by decide) ?_
                    exact ih (y2) (y3) (y4) ((y5 + 1)) hM hw (lv_sub hl [3, 4, 5, 6, 7, 0] rfl)
                  · replace hM := h_f hc hM
                    refine lv_iinc (v := (y4 + (-1))) (lv' := [(4, .int (y4 + (-1))), (7, .int ((gI ι 22 y5.toNatClampNeg) &&& (127 : Int32))), (6, .int ((gI ι 22 y5.toNatClampNeg) >>> ((7 : Int32) &&& 31))), (0, .ref (ad 21)), (1, .ref (ad x1)), (2, .int y2), (3, .int y3), (5, .int y5)]) hx hb dX1_run_155 hl (k := 6) rfl rfl (by decide) rfl (fun ls hl => ?_)
                    refine lv_aload_n hx hb dX1_run_158 rfl (lv_at hl 3 rfl) ?_
                    refine a_getp (q := 23) (σ := aG ι) (o := 21) (T := TX1) (N := 3) C wU_X1 hw rfl (by decide) rfl 1 (by decide) rfl wF_X1_15 (aG_P rfl rfl) dX1_run_159 ?_
                    refine lv_iload hx hb dX1_run_162 (lv_at hl 0 rfl) ?_
                    refine lv_iconst (v := (1 : Int32)) hx hb dX1_run_164 (by decide) ?_
                    refine lv_isub hx hb dX1_run_165 ?_
                    refine lv_iload hx hb dX1_run_166 (lv_at hl 2 rfl) ?_
                    refine lv_aload_n hx hb dX1_run_168 rfl (lv_at hl 3 rfl) ?_
                    refine a_getp (q := 23) (σ := aG ι) (o := 21) (T := TX1) (N := 3) C wU_X1 hw rfl (by decide) rfl 1 (by decide) rfl wF_X1_15 (aG_P rfl rfl) dX1_run_169 ?_
                    refine lv_iload hx hb dX1_run_172 (lv_at hl 0 rfl) ?_
                    refine lv_iconst (v := (1 : Int32)) hx hb dX1_run_174 (by decide) ?_
                    refine lv_isub hx hb dX1_run_175 ?_
                    obtain ⟨hi, hM⟩ := h_i hM
                    refine a_lald (σ := aG ι) (o := 23) C hw rfl hi rfl dX1_run_176 ?_
                    refine lv_aload_n hx hb dX1_run_177 rfl (lv_at hl 3 rfl) ?_
                    refine a_getp (q := 23) (σ := aG ι) (o := 21) (T := TX1) (N := 3) C wU_X1 hw rfl (by decide) rfl 1 (by decide) rfl wF_X1_15 (aG_P rfl rfl) dX1_run_178 ?_
                    refine lv_iload hx hb dX1_run_181 (lv_at hl 0 rfl) ?_
                    obtain ⟨hi, hM⟩ := h_i hM
                    refine a_lald (σ := aG ι) (o := 23) C hw rfl hi rfl dX1_run_183 ?_
                    obtain ⟨r184, hr184, hM⟩ := h_b hM
                    refine a_callS  (σ' := aG r184.2) (v := (some (.long r184.1))) (as := fun ad => [.int ((gI ι 22 y5.toNatClampNeg) >>> ((7 : Int32) &&& 31)), .long (gJ ι 23 ((y4 + (-1)) - (1 : Int32)).toNatClampNeg), .long (gJ ι 23 (y4 + (-1)).toNatClampNeg)]) (rest := [.int ((y4 + (-1)) - (1 : Int32)), .ref (ad 23)]) C hw (c_X1_joined l hr184) k_X1_joined wM_X1_63 ⟨⟨rfl, rfl⟩, ⟨Nat.le_of_ble_eq_true rfl, Nat.le_of_ble_eq_true rfl⟩⟩ rfl hl rfl (Nat.le_of_ble_eq_true rfl) dX1_run_184 ⟨Nat.zero_le _, Nat.zero_le _⟩ (fun H locs hw => ?_)
                    obtain ⟨hi, hM⟩ := h_i hM
                    refine a_last (σ := aG r184.2) (o := 23) C hw rfl hi rfl dX1_run_187 (fun H locs hw => ?_)
                    have hw : aW D dA ad adV (aG (pJ r184.2 23 ((y4 + (-1)) - (1 : Int32)).toNatClampNeg r184.1)) A s H locs := hw
                    refine lv_iinc (v := (y5 + 1)) (lv' := [(5, .int (y5 + 1)), (4, .int (y4 + (-1))), (7, .int ((gI ι 22 y5.toNatClampNeg) &&& (127 : Int32))), (6, .int ((gI ι 22 y5.toNatClampNeg) >>> ((7 : Int32) &&& 31))), (0, .ref (ad 21)), (1, .ref (ad x1)), (2, .int y2), (3, .int y3)]) hx hb dX1_run_188 hl (k := 7) rfl rfl (by decide) rfl (fun ls hl => ?_)
                    refine lv_goto (tgt := 6) hx hb dX1_run_191 (by decide) ?_
                    exact ih (y2) (y3) ((y4 + (-1))) ((y5 + 1)) hM hw (lv_sub hl [4, 5, 6, 7, 1, 0] rfl)
              · replace hM := h_t hc hM
                refine lv_iload hx hb dX1_run_115 (lv_at hl 6 rfl) ?_
                refine lv_iconst (v := (1 : Int32)) hx hb dX1_run_117 (by decide) ?_
                refine lv_icmp_lt (tgt := 143) hx hb dX1_run_118 (by decide) (fun hc => ?_) (fun hc => ?_)
                · replace hM := h_t hc hM
                  refine lv_iload hx hb dX1_run_143 (lv_at hl 1 rfl) ?_
                  refine lv_iconst (v := (4 : Int32)) hx hb dX1_run_145 (by decide) ?_
                  refine lv_icmp_le (tgt := 188) hx hb dX1_run_146 (by decide) (fun hc => ?_) (fun hc => ?_)
                  · replace hM := h_t hc hM
                    refine lv_iinc (v := (y5 + 1)) (lv' := [(5, .int (y5 + 1)), (7, .int ((gI ι 22 y5.toNatClampNeg) &&& (127 : Int32))), (6, .int ((gI ι 22 y5.toNatClampNeg) >>> ((7 : Int32) &&& 31))), (0, .ref (ad 21)), (1, .ref (ad x1)), (2, .int y2), (3, .int y3), (4, .int y4)]) hx hb dX1_run_188 hl (k := 7) rfl rfl (by decide) rfl (fun ls hl => ?_)
                    refine lv_goto (tgt := 6) hx hb dX1_run_191 (by decide) ?_
                    exact ih (y2) (y3) (y4) ((y5 + 1)) hM hw (lv_sub hl [3, 4, 5, 6, 7, 0] rfl)
                  · replace hM := h_f hc hM
                    refine lv_iload hx hb dX1_run_149 (lv_at hl 6 rfl) ?_
                    refine lv_iconst (v := (2 : Int32)) hx hb dX1_run_151 (by decide) ?_
                    refine lv_icmp_lt (tgt := 188) hx hb dX1_run_152 (by decide) (fun hc => ?_) (fun hc => ?_)
                    · replace hM := h_t hc hM
                      refine lv_iinc (v := (y5 + 1)) (lv' := [(5, .int (y5 + 1)), (7, .int ((gI ι 22 y5.toNatClampNeg) &&& (127 : Int32))), (6, .int ((gI ι 22 y5.toNatClampNeg) >>> ((7 : Int32) &&& 31))), (0, .ref (ad 21)), (1, .ref (ad x1)), (2, .int y2), (3, .int y3), (4, .int y4)]) hx hb dX1_run_188 hl (k := 7) rfl rfl (by decide) rfl (fun ls hl => ?_)
                      refine lv_goto (tgt := 6) hx hb dX1_run_191 (by decide) ?_
                      exact ih (y2) (y3) (y4) ((y5 + 1)) hM hw (lv_sub hl [3, 4, 5, 6, 7, 0] rfl)
                    · replace hM := h_f hc hM
                      refine lv_iinc (v := (y4 + (-1))) (lv' := [(4, .int (y4 + (-1))), (7, .int ((gI ι 22 y5.toNatClampNeg) &&& (127 : Int32))), (6, .int ((gI ι 22 y5.toNatClampNeg) >>> ((7 : Int32) &&& 31))), (0, .ref (ad 21)), (1, .ref (ad x1)), (2, .int y2), (3, .int y3), (5, .int y5)]) hx hb dX1_run_155 hl (k := 6) rfl rfl (by decide) rfl (fun ls hl => ?_)
                      refine lv_aload_n hx hb dX1_run_158 rfl (lv_at hl 3 rfl) ?_
                      refine a_getp (q := 23) (σ := aG ι) (o := 21) (T := TX1) (N := 3) C wU_X1 hw rfl (by decide) rfl 1 (by decide) rfl wF_X1_15 (aG_P rfl rfl) dX1_run_159 ?_
                      refine lv_iload hx hb dX1_run_162 (lv_at hl 0 rfl) ?_
                      refine lv_iconst (v := (1 : Int32)) hx hb dX1_run_164 (by decide) ?_
                      refine lv_isub hx hb dX1_run_165 ?_
                      refine lv_iload hx hb dX1_run_166 (lv_at hl 2 rfl) ?_
                      refine lv_aload_n hx hb dX1_run_168 rfl (lv_at hl 3 rfl) ?_
                      refine a_getp (q := 23) (σ := aG ι) (o := 21) (T := TX1) (N := 3) C wU_X1 hw rfl (by decide) rfl 1 (by decide) rfl wF_X1_15 (aG_P rfl rfl) dX1_run_169 ?_
                      refine lv_iload hx hb dX1_run_172 (lv_at hl 0 rfl) ?_
                      refine lv_iconst (v := (1 : Int32)) hx hb dX1_run_174 (by decide) ?_
                      refine lv_isub hx hb dX1_run_175 ?_
                      obtain ⟨hi, hM⟩ := h_i hM
                      refine a_lald (σ := aG ι) (o := 23) C hw rfl hi rfl dX1_run_176 ?_
                      refine lv_aload_n hx hb dX1_run_177 rfl (lv_at hl 3 rfl) ?_
                      refine a_getp (q := 23) (σ := aG ι) (o := 21) (T := TX1) (N := 3) C wU_X1 hw rfl (by decide) rfl 1 (by decide) rfl wF_X1_15 (aG_P rfl rfl) dX1_run_178 ?_
                      refine lv_iload hx hb dX1_run_181 (lv_at hl 0 rfl) ?_
                      obtain ⟨hi, hM⟩ := h_i hM
                      refine a_lald (σ := aG ι) (o := 23) C hw rfl hi rfl dX1_run_183 ?_
                      obtain ⟨r184, hr184, hM⟩ := h_b hM
                      refine a_callS  (σ' := aG r184.2) (v := (some (.long r184.1))) (as := fun ad => [.int ((gI ι 22 y5.toNatClampNeg) >>> ((7 : Int32) &&& 31)), .long (gJ ι 23 ((y4 + (-1)) - (1 : Int32)).toNatClampNeg), .long (gJ ι 23 (y4 + (-1)).toNatClampNeg)]) (rest := [.int ((y4 + (-1)) - (1 : Int32)), .ref (ad 23)]) C hw (c_X1_joined l hr184) k_X1_joined wM_X1_63 ⟨⟨rfl, rfl⟩, ⟨Nat.le_of_ble_eq_true rfl, Nat.le_of_ble_eq_true rfl⟩⟩ rfl hl rfl (Nat.le_of_ble_eq_true rfl) dX1_run_184 ⟨Nat.zero_le _, Nat.zero_le _⟩ (fun H locs hw => ?_)
                      obtain ⟨hi, hM⟩ := h_i hM
                      refine a_last (σ := aG r184.2) (o := 23) C hw rfl hi rfl dX1_run_187 (fun H locs hw => ?_)
                      have hw : aW D dA ad adV (aG (pJ r184.2 23 ((y4 + (-1)) - (1 : Int32)).toNatClampNeg r184.1)) A s H locs := hw
                      refine lv_iinc (v := (y5 + 1)) (lv' := [(5, .int (y5 + 1)), (4, .int (y4 + (-1))), (7, .int ((gI ι 22 y5.toNatClampNeg) &&& (127 : Int32))), (6, .int ((gI ι 22 y5.toNatClampNeg) >>> ((7 : Int32) &&& 31))), (0, .ref (ad 21)), (1, .ref (ad x1)), (2, .int y2), (3, .int y3)]) hx hb dX1_run_188 hl (k := 7) rfl rfl (by decide) rfl (fun ls hl => ?_)
                      refine lv_goto (tgt := 6) hx hb dX1_run_191 (by decide) ?_
                      exact ih (y2) (y3) ((y4 + (-1))) ((y5 + 1)) hM hw (lv_sub hl [4, 5, 6, 7, 1, 0] rfl)
                · replace hM := h_f hc hM
                  refine lv_aload_n hx hb dX1_run_121 rfl (lv_at hl 2 rfl) ?_
                  refine a_getp (q := 23) (σ := aG ι) (o := 21) (T := TX1) (N := 3) C wU_X1 hw rfl (by decide) rfl 1 (by decide) rfl wF_X1_15 (aG_P rfl rfl) dX1_run_122 ?_
                  refine lv_iload hx hb dX1_run_125 (lv_at hl 6 rfl) ?_
                  refine lv_iconst (v := (1 : Int32)) hx hb dX1_run_127 (by decide) ?_
                  refine lv_isub hx hb dX1_run_128 ?_
                  refine lv_aload_n hx hb dX1_run_129 rfl (lv_at hl 2 rfl) ?_
                  refine a_getp (q := 23) (σ := aG ι) (o := 21) (T := TX1) (N := 3) C wU_X1 hw rfl (by decide) rfl 1 (by decide) rfl wF_X1_15 (aG_P rfl rfl) dX1_run_130 ?_
                  refine lv_iload hx hb dX1_run_133 (lv_at hl 6 rfl) ?_
                  refine lv_iconst (v := (1 : Int32)) hx hb dX1_run_135 (by decide) ?_
                  refine lv_isub hx hb dX1_run_136 ?_
                  obtain ⟨hi, hM⟩ := h_i hM
                  refine a_lald (σ := aG ι) (o := 23) C hw rfl hi rfl dX1_run_137 ?_
                  refine lv_lneg hx hb dX1_run_138 ?_
                  obtain ⟨hi, hM⟩ := h_i hM
                  refine a_last (σ := aG ι) (o := 23) C hw rfl hi rfl dX1_run_139 (fun H locs hw => ?_)
                  have hw : aW D dA ad adV (aG (pJ ι 23 (y4 - (1 : Int32)).toNatClampNeg (-(gJ ι 23 (y4 - (1 : Int32)).toNatClampNeg)))) A s H locs := hw
                  refine lv_goto (tgt := 188) hx hb dX1_run_140 (by decide) ?_
                  refine lv_iinc (v := (y5 + 1)) (lv' := [(5, .int (y5 + 1)), (7, .int ((gI ι 22 y5.toNatClampNeg) &&& (127 : Int32))), (6, .int ((gI ι 22 y5.toNatClampNeg) >>> ((7 : Int32) &&& 31))), (0, .ref (ad 21)), (1, .ref (ad x1)), (2, .int y2), (3, .int y3), (4, .int y4)]) hx hb dX1_run_188 hl (k := 7) rfl rfl (by decide) rfl (fun ls hl => ?_)
                  refine lv_goto (tgt := 6) hx hb dX1_run_191 (by decide) ?_
                  exact ih (y2) (y3) (y4) ((y5 + 1)) hM hw (lv_sub hl [3, 4, 5, 6, 7, 0] rfl)
            · replace hM := h_f hc hM
              refine lv_aload_n hx hb dX1_run_86 rfl (lv_at hl 2 rfl) ?_
              refine a_getp (q := 23) (σ := aG ι) (o := 21) (T := TX1) (N := 3) C wU_X1 hw rfl (by decide) rfl 1 (by decide) rfl wF_X1_15 (aG_P rfl rfl) dX1_run_87 ?_
              refine lv_iload hx hb dX1_run_90 (lv_at hl 6 rfl) ?_
              refine lv_iload hx hb dX1_run_92 (lv_at hl 1 rfl) ?_
              refine lv_iload hx hb dX1_run_94 (lv_at hl 0 rfl) ?_
              refine lv_aload_n hx hb dX1_run_96 rfl (lv_at hl 3 rfl) ?_
              refine lv_iload_n hx hb dX1_run_97 rfl (lv_at hl 4 rfl) ?_
              refine lv_iload_n hx hb dX1_run_98 rfl (lv_at hl 5 rfl) ?_
              obtain ⟨r99, hr99, hM⟩ := h_b hM
              refine a_callS  (σ' := aG r99.2) (v := (some (.long r99.1))) (as := fun ad => [.int ((gI ι 22 y5.toNatClampNeg) >>> ((7 : Int32) &&& 31)), .int ((gI ι 22 y5.toNatClampNeg) &&& (127 : Int32)), .ref (ad x1), .int y2, .int y3]) (rest := [.int y4, .ref (ad 23)]) C hw (c_X1_ofTrait l (hx1) hr99) k_X1_ofTrait wM_X1_59 ⟨⟨rfl, rfl⟩, ⟨Nat.le_of_ble_eq_true rfl, Nat.le_of_ble_eq_true rfl⟩⟩ rfl hl rfl (Nat.le_of_ble_eq_true rfl) dX1_run_99 ⟨Nat.zero_le _, Nat.zero_le _⟩ (fun H locs hw => ?_)
              obtain ⟨hi, hM⟩ := h_i hM
              refine a_last (σ := aG r99.2) (o := 23) C hw rfl hi rfl dX1_run_102 (fun H locs hw => ?_)
              have hw : aW D dA ad adV (aG (pJ r99.2 23 y4.toNatClampNeg r99.1)) A s H locs := hw
              refine lv_iinc (v := (y4 + 1)) (lv' := [(4, .int (y4 + 1)), (7, .int ((gI ι 22 y5.toNatClampNeg) &&& (127 : Int32))), (6, .int ((gI ι 22 y5.toNatClampNeg) >>> ((7 : Int32) &&& 31))), (0, .ref (ad 21)), (1, .ref (ad x1)), (2, .int y2), (3, .int y3), (5, .int y5)]) hx hb dX1_run_103 hl (k := 6) rfl rfl (by decide) rfl (fun ls hl => ?_)
              refine lv_goto (tgt := 188) hx hb dX1_run_106 (by decide) ?_
              refine lv_iinc (v := (y5 + 1)) (lv' := [(5, .int (y5 + 1)), (4, .int (y4 + 1)), (7, .int ((gI ι 22 y5.toNatClampNeg) &&& (127 : Int32))), (6, .int ((gI ι 22 y5.toNatClampNeg) >>> ((7 : Int32) &&& 31))), (0, .ref (ad 21)), (1, .ref (ad x1)), (2, .int y2), (3, .int y3)]) hx hb dX1_run_188 hl (k := 7) rfl rfl (by decide) rfl (fun ls hl => ?_)
              refine lv_goto (tgt := 6) hx hb dX1_run_191 (by decide) ?_
              exact ih (y2) (y3) ((y4 + 1)) ((y5 + 1)) hM hw (lv_sub hl [4, 5, 6, 7, 1, 0] rfl)
      · replace hM := h_t hc hM
        refine lv_iload hx hb dX1_run_44 (lv_at hl 6 rfl) ?_
        refine lv_bipush (v := (16 : Int32)) hx hb dX1_run_46 (by decide) ?_
        refine lv_icmp_ge (tgt := 67) hx hb dX1_run_48 (by decide) (fun hc => ?_) (fun hc => ?_)
        · replace hM := h_t hc hM
          refine lv_iload hx hb dX1_run_67 (lv_at hl 1 rfl) ?_
          refine lv_iconst (v := (4 : Int32)) hx hb dX1_run_69 (by decide) ?_
          refine lv_icmp_ge (tgt := 109) hx hb dX1_run_70 (by decide) (fun hc => ?_) (fun hc => ?_)
          · replace hM := h_t hc hM
            refine lv_iload hx hb dX1_run_109 (lv_at hl 1 rfl) ?_
            refine lv_iconst (v := (4 : Int32)) hx hb dX1_run_111 (by decide) ?_
            refine lv_icmp_ne (tgt := 143) hx hb dX1_run_112 (by decide) (fun hc => ?_) (fun hc => ?_)
            · replace hM := h_f hc hM
              refine lv_iload hx hb dX1_run_143 (lv_at hl 1 rfl) ?_
              refine lv_iconst (v := (4 : Int32)) hx hb dX1_run_145 (by decide) ?_
              refine lv_icmp_le (tgt := 188) hx hb dX1_run_146 (by decide) (fun hc => ?_) (fun hc => ?_)
              · replace hM := h_t hc hM
                refine lv_iinc (v := (y5 + 1)) (lv' := [(5, .int (y5 + 1)), (7, .int ((gI ι 22 y5.toNatClampNeg) &&& (127 : Int32))), (6, .int ((gI ι 22 y5.toNatClampNeg) >>> ((7 : Int32) &&& 31))), (0, .ref (ad 21)), (1, .ref (ad x1)), (2, .int y2), (3, .int y3), (4, .int y4)]) hx hb dX1_run_188 hl (k := 7) rfl rfl (by decide) rfl (fun ls hl => ?_)
                refine lv_goto (tgt := 6) hx hb dX1_run_191 (by decide) ?_
                exact ih (y2) (y3) (y4) ((y5 + 1)) hM hw (lv_sub hl [3, 4, 5, 6, 7, 0] rfl)
              · replace hM := h_f hc hM
                refine lv_iload hx hb dX1_run_149 (lv_at hl 6 rfl) ?_
                refine lv_iconst (v := (2 : Int32)) hx hb dX1_run_151 (by decide) ?_
                refine lv_icmp_lt (tgt := 188) hx hb dX1_run_152 (by decide) (fun hc => ?_) (fun hc => ?_)
                · replace hM := h_t hc hM
                  refine lv_iinc (v := (y5 + 1)) (lv' := [(5, .int (y5 + 1)), (7, .int ((gI ι 22 y5.toNatClampNeg) &&& (127 : Int32))), (6, .int ((gI ι 22 y5.toNatClampNeg) >>> ((7 : Int32) &&& 31))), (0, .ref (ad 21)), (1, .ref (ad x1)), (2, .int y2), (3, .int y3), (4, .int y4)]) hx hb dX1_run_188 hl (k := 7) rfl rfl (by decide) rfl (fun ls hl => ?_)
                  refine lv_goto (tgt := 6) hx hb dX1_run_191 (by decide) ?_
                  exact ih (y2) (y3) (y4) ((y5 + 1)) hM hw (lv_sub hl [3, 4, 5, 6, 7, 0] rfl)
                · replace hM := h_f hc hM
                  refine lv_iinc (v := (y4 + (-1))) (lv' := [(4, .int (y4 + (-1))), (7, .int ((gI ι 22 y5.toNatClampNeg) &&& (127 : Int32))), (6, .int ((gI ι 22 y5.toNatClampNeg) >>> ((7 : Int32) &&& 31))), (0, .ref (ad 21)), (1, .ref (ad x1)), (2, .int y2), (3, .int y3), (5, .int y5)]) hx hb dX1_run_155 hl (k := 6) rfl rfl (by decide) rfl (fun ls hl => ?_)
                  refine lv_aload_n hx hb dX1_run_158 rfl (lv_at hl 3 rfl) ?_
                  refine a_getp (q := 23) (σ := aG ι) (o := 21) (T := TX1) (N := 3) C wU_X1 hw rfl (by decide) rfl 1 (by decide) rfl wF_X1_15 (aG_P rfl rfl) dX1_run_159 ?_
                  refine lv_iload hx hb dX1_run_162 (lv_at hl 0 rfl) ?_
                  refine lv_iconst (v := (1 : Int32)) hx hb dX1_run_164 (by decide) ?_
                  refine lv_isub hx hb dX1_run_165 ?_
                  refine lv_iload hx hb dX1_run_166 (lv_at hl 2 rfl) ?_
                  refine lv_aload_n hx hb dX1_run_168 rfl (lv_at hl 3 rfl) ?_
                  refine a_getp (q := 23) (σ := aG ι) (o := 21) (T := TX1) (N := 3) C wU_X1 hw rfl (by decide) rfl 1 (by decide) rfl wF_X1_15 (aG_P rfl rfl) dX1_run_169 ?_
                  refine lv_iload hx hb dX1_run_172 (lv_at hl 0 rfl) ?_
                  refine lv_iconst (v := (1 : Int32)) hx hb dX1_run_174 (by decide) ?_
                  refine lv_isub hx hb dX1_run_175 ?_
                  obtain ⟨hi, hM⟩ := h_i hM
                  refine a_lald (σ := aG ι) (o := 23) C hw rfl hi rfl dX1_run_176 ?_
                  refine lv_aload_n hx hb dX1_run_177 rfl (lv_at hl 3 rfl) ?_
                  refine a_getp (q := 23) (σ := aG ι) (o := 21) (T := TX1) (N := 3) C wU_X1 hw rfl (by decide) rfl 1 (by decide) rfl wF_X1_15 (aG_P rfl rfl) dX1_run_178 ?_
                  refine lv_iload hx hb dX1_run_181 (lv_at hl 0 rfl) ?_
                  obtain ⟨hi, hM⟩ := h_i hM
                  refine a_lald (σ := aG ι) (o := 23) C hw rfl hi rfl dX1_run_183 ?_
                  obtain ⟨r184, hr184, hM⟩ := h_b hM
                  refine a_callS  (σ' := aG r184.2) (v := (some (.long r184.1))) (as := fun ad => [.int ((gI ι 22 y5.toNatClampNeg) >>> ((7 : Int32) &&& 31)), .long (gJ ι 23 ((y4 + (-1)) - (1 : Int32)).toNatClampNeg), .long (gJ ι 23 (y4 + (-1)).toNatClampNeg)]) (rest := [.int ((y4 + (-1)) - (1 : Int32)), .ref (ad 23)]) C hw (c_X1_joined l hr184) k_X1_joined wM_X1_63 ⟨⟨rfl, rfl⟩, ⟨Nat.le_of_ble_eq_true rfl, Nat.le_of_ble_eq_true rfl⟩⟩ rfl hl rfl (Nat.le_of_ble_eq_true rfl) dX1_run_184 ⟨Nat.zero_le _, Nat.zero_le _⟩ (fun H locs hw => ?_)
                  obtain ⟨hi, hM⟩ := h_i hM
                  refine a_last (σ := aG r184.2) (o := 23) C hw rfl hi rfl dX1_run_187 (fun H locs hw => ?_)
                  have hw : aW D dA ad adV (aG (pJ r184.2 23 ((y4 + (-1)) - (1 : Int32)).toNatClampNeg r184.1)) A s H locs := hw
                  refine lv_iinc (v := (y5 + 1)) (lv' := [(5, .int (y5 + 1)), (4, .int (y4 + (-1))), (7, .int ((gI ι 22 y5.toNatClampNeg) &&& (127 : Int32))), (6, .int ((gI ι 22 y5.toNatClampNeg) >>> ((7 : Int32) &&& 31))), (0, .ref (ad 21)), (1, .ref (ad x1)), (2, .int y2), (3, .int y3)]) hx hb dX1_run_188 hl (k := 7) rfl rfl (by decide) rfl (fun ls hl => ?_)
                  refine lv_goto (tgt := 6) hx hb dX1_run_191 (by decide) ?_
                  exact ih (y2) (y3) ((y4 + (-1))) ((y5 + 1)) hM hw (lv_sub hl [4, 5, 6, 7, 1, 0] rfl)
            · replace hM := h_t hc hM
              refine lv_iload hx hb dX1_run_115 (lv_at hl 6 rfl) ?_
              refine lv_iconst (v := (1 : Int32)) hx hb dX1_run_117 (by decide) ?_
              refine lv_icmp_lt (tgt := 143) hx hb dX1_run_118 (by decide) (fun hc => ?_) (fun hc => ?_)
              · replace hM := h_t hc hM
                refine lv_iload hx hb dX1_run_143 (lv_at hl 1 rfl) ?_
                refine lv_iconst (v := (4 : Int32)) hx hb dX1_run_145 (by decide) ?_
                refine lv_icmp_le (tgt := 188) hx hb dX1_run_146 (by decide) (fun hc => ?_) (fun hc => ?_)
                · replace hM := h_t hc hM
                  refine lv_iinc (v := (y5 + 1)) (lv' := [(5, .int (y5 + 1)), (7, .int ((gI ι 22 y5.toNatClampNeg) &&& (127 : Int32))), (6, .int ((gI ι 22 y5.toNatClampNeg) >>> ((7 : Int32) &&& 31))), (0, .ref (ad 21)), (1, .ref (ad x1)), (2, .int y2), (3, .int y3), (4, .int y4)]) hx hb dX1_run_188 hl (k := 7) rfl rfl (by decide) rfl (fun ls hl => ?_)
                  refine lv_goto (tgt := 6) hx hb dX1_run_191 (by decide) ?_
                  exact ih (y2) (y3) (y4) ((y5 + 1)) hM hw (lv_sub hl [3, 4, 5, 6, 7, 0] rfl)
                · replace hM := h_f hc hM
                  refine lv_iload hx hb dX1_run_149 (lv_at hl 6 rfl) ?_
                  refine lv_iconst (v := (2 : Int32)) hx hb dX1_run_151 (by decide) ?_
                  refine lv_icmp_lt (tgt := 188) hx hb dX1_run_152 (by decide) (fun hc => ?_) (fun hc => ?_)
                  · replace hM := h_t hc hM
                    refine lv_iinc (v := (y5 + 1)) (lv' := [(5, .int (y5 + 1)), (7, .int ((gI ι 22 y5.toNatClampNeg) &&& (127 : Int32))), (6, .int ((gI ι 22 y5.toNatClampNeg) >>> ((7 : Int32) &&& 31))), (0, .ref (ad 21)), (1, .ref (ad x1)), (2, .int y2), (3, .int y3), (4, .int y4)]) hx hb dX1_run_188 hl (k := 7) rfl rfl (by decide) rfl (fun ls hl => ?_)
                    refine lv_goto (tgt := 6) hx hb dX1_run_191 (by decide) ?_
                    exact ih (y2) (y3) (y4) ((y5 + 1)) hM hw (lv_sub hl [3, 4, 5, 6, 7, 0] rfl)
                  · replace hM := h_f hc hM
                    refine lv_iinc (v := (y4 + (-1))) (lv' := [(4, .int (y4 + (-1))), (7, .int ((gI ι 22 y5.toNatClampNeg) &&& (127 : Int32))), (6, .int ((gI ι 22 y5.toNatClampNeg) >>> ((7 : Int32) &&& 31))), (0, .ref (ad 21)), (1, .ref (ad x1)), (2, .int y2), (3, .int y3), (5, .int y5)]) hx hb dX1_run_155 hl (k := 6) rfl rfl (by decide) rfl (fun ls hl => ?_)
                    refine lv_aload_n hx hb dX1_run_158 rfl (lv_at hl 3 rfl) ?_
                    refine a_getp (q := 23) (σ := aG ι) (o := 21) (T := TX1) (N := 3) C wU_X1 hw rfl (by decide) rfl 1 (by decide) rfl wF_X1_15 (aG_P rfl rfl) dX1_run_159 ?_
                    refine lv_iload hx hb dX1_run_162 (lv_at hl 0 rfl) ?_
                    refine lv_iconst (v := (1 : Int32)) hx hb dX1_run_164 (by decide) ?_
                    refine lv_isub hx hb dX1_run_165 ?_
                    refine lv_iload hx hb dX1_run_166 (lv_at hl 2 rfl) ?_
                    refine lv_aload_n hx hb dX1_run_168 rfl (lv_at hl 3 rfl) ?_
                    refine a_getp (q := 23) (σ := aG ι) (o := 21) (T := TX1) (N := 3) C wU_X1 hw rfl (by decide) rfl 1 (by decide) rfl wF_X1_15 (aG_P rfl rfl) dX1_run_169 ?_
                    refine lv_iload hx hb dX1_run_172 (lv_at hl 0 rfl) ?_
                    refine lv_iconst (v := (1 : Int32)) hx hb dX1_run_174 (by decide) ?_
                    refine lv_isub hx hb dX1_run_175 ?_
                    obtain ⟨hi, hM⟩ := h_i hM
                    refine a_lald (σ := aG ι) (o := 23) C hw rfl hi rfl dX1_run_176 ?_
                    refine lv_aload_n hx hb dX1_run_177 rfl (lv_at hl 3 rfl) ?_
                    refine a_getp (q := 23) (σ := aG ι) (o := 21) (T := TX1) (N := 3) C wU_X1 hw rfl (by decide) rfl 1 (by decide) rfl wF_X1_15 (aG_P rfl rfl) dX1_run_178 ?_
                    refine lv_iload hx hb dX1_run_181 (lv_at hl 0 rfl) ?_
                    obtain ⟨hi, hM⟩ := h_i hM
                    refine a_lald (σ := aG ι) (o := 23) C hw rfl hi rfl dX1_run_183 ?_
                    obtain ⟨r184, hr184, hM⟩ := h_b hM
                    refine a_callS  (σ' := aG r184.2) (v := (some (.long r184.1))) (as := fun ad => [.int ((gI ι 22 y5.toNatClampNeg) >>> ((7 : Int32) &&& 31)), .long (gJ ι 23 ((y4 + (-1)) - (1 : Int32)).toNatClampNeg), .long (gJ ι 23 (y4 + (-1)).toNatClampNeg)]) (rest := [.int ((y4 + (-1)) - (1 : Int32)), .ref (ad 23)]) C hw (c_X1_joined l hr184) k_X1_joined wM_X1_63 ⟨⟨rfl, rfl⟩, ⟨Nat.le_of_ble_eq_true rfl, Nat.le_of_ble_eq_true rfl⟩⟩ rfl hl rfl (Nat.le_of_ble_eq_true rfl) dX1_run_184 ⟨Nat.zero_le _, Nat.zero_le _⟩ (fun H locs hw => ?_)
                    obtain ⟨hi, hM⟩ := h_i hM
                    refine a_last (σ := aG r184.2) (o := 23) C hw rfl hi rfl dX1_run_187 (fun H locs hw => ?_)
                    have hw : aW D dA ad adV (aG (pJ r184.2 23 ((y4 + (-1)) - (1 : Int32)).toNatClampNeg r184.1)) A s H locs := hw
                    refine lv_iinc (v := (y5 + 1)) (lv' := [(5, .int (y5 + 1)), (4, .int (y4 + (-1))), (7, .int ((gI ι 22 y5.toNatClampNeg) &&& (127 : Int32))), (6, .int ((gI ι 22 y5.toNatClampNeg) >>> ((7 : Int32) &&& 31))), (0, .ref (ad 21)), (1, .ref (ad x1)), (2, .int y2), (3, .int y3)]) hx hb dX1_run_188 hl (k := 7) rfl rfl (by decide) rfl (fun ls hl => ?_)
                    refine lv_goto (tgt := 6) hx hb dX1_run_191 (by decide) ?_
                    exact ih (y2) (y3) ((y4 + (-1))) ((y5 + 1)) hM hw (lv_sub hl [4, 5, 6, 7, 1, 0] rfl)
              · replace hM := h_f hc hM
                refine lv_aload_n hx hb dX1_run_121 rfl (lv_at hl 2 rfl) ?_
                refine a_getp (q := 23) (σ := aG ι) (o := 21) (T := TX1) (N := 3) C wU_X1 hw rfl (by decide) rfl 1 (by decide) rfl wF_X1_15 (aG_P rfl rfl) dX1_run_122 ?_
                refine lv_iload hx hb dX1_run_125 (lv_at hl 6 rfl) ?_
                refine lv_iconst (v := (1 : Int32)) hx hb dX1_run_127 (by decide) ?_
                refine lv_isub hx hb dX1_run_128 ?_
                refine lv_aload_n hx hb dX1_run_129 rfl (lv_at hl 2 rfl) ?_
                refine a_getp (q := 23) (σ := aG ι) (o := 21) (T := TX1) (N := 3) C wU_X1 hw rfl (by decide) rfl 1 (by decide) rfl wF_X1_15 (aG_P rfl rfl) dX1_run_130 ?_
                refine lv_iload hx hb dX1_run_133 (lv_at hl 6 rfl) ?_
                refine lv_iconst (v := (1 : Int32)) hx hb dX1_run_135 (by decide) ?_
                refine lv_isub hx hb dX1_run_136 ?_
                obtain ⟨hi, hM⟩ := h_i hM
                refine a_lald (σ := aG ι) (o := 23) C hw rfl hi rfl dX1_run_137 ?_
                refine lv_lneg hx hb dX1_run_138 ?_
                obtain ⟨hi, hM⟩ := h_i hM
                refine a_last (σ := aG ι) (o := 23) C hw rfl hi rfl dX1_run_139 (fun H locs hw => ?_)
                have hw : aW D dA ad adV (aG (pJ ι 23 (y4 - (1 : Int32)).toNatClampNeg (-(gJ ι 23 (y4 - (1 : Int32)).toNatClampNeg)))) A s H locs := hw
                refine lv_goto (tgt := 188) hx hb dX1_run_140 (by decide) ?_
                refine lv_iinc (v := (y5 + 1)) (lv' := [(5, .int (y5 + 1)), (7, .int ((gI ι 22 y5.toNatClampNeg) &&& (127 : Int32))), (6, .int ((gI ι 22 y5.toNatClampNeg) >>> ((7 : Int32) &&& 31))), (0, .ref (ad 21)), (1, .ref (ad x1)), (2, .int y2), (3, .int y3), (4, .int y4)]) hx hb dX1_run_188 hl (k := 7) rfl rfl (by decide) rfl (fun ls hl => ?_)
                refine lv_goto (tgt := 6) hx hb dX1_run_191 (by decide) ?_
                exact ih (y2) (y3) (y4) ((y5 + 1)) hM hw (lv_sub hl [3, 4, 5, 6, 7, 0] rfl)
          · replace hM := h_f hc hM
            refine lv_iload hx hb dX1_run_73 (lv_at hl 6 rfl) ?_
            refine lv_bipush (v := (16 : Int32)) hx hb dX1_run_75 (by decide) ?_
            refine lv_icmp_ge (tgt := 109) hx hb dX1_run_77 (by decide) (fun hc => ?_) (fun hc => ?_)
            · replace hM := h_t hc hM
              refine lv_iload hx hb dX1_run_109 (lv_at hl 1 rfl) ?_
              refine lv_iconst (v := (4 : Int32)) hx hb dX1_run_111 (by decide) ?_
              refine lv_icmp_ne (tgt := 143) hx hb dX1_run_112 (by decide) (fun hc => ?_) (fun hc => ?_)
              · replace hM := h_f hc hM
                refine lv_iload hx hb dX1_run_143 (lv_at hl 1 rfl) ?_
                refine lv_iconst (v := (4 : Int32)) hx hb dX1_run_145 (by decide) ?_
                refine lv_icmp_le (tgt := 188) hx hb dX1_run_146 (by decide) (fun hc => ?_) (fun hc => ?_)
                · replace hM := h_t hc hM
                  refine lv_iinc (v := (y5 + 1)) (lv' := [(5, .int (y5 + 1)), (7, .int ((gI ι 22 y5.toNatClampNeg) &&& (127 : Int32))), (6, .int ((gI ι 22 y5.toNatClampNeg) >>> ((7 : Int32) &&& 31))), (0, .ref (ad 21)), (1, .ref (ad x1)), (2, .int y2), (3, .int y3), (4, .int y4)]) hx hb dX1_run_188 hl (k := 7) rfl rfl (by decide) rfl (fun ls hl => ?_)
                  refine lv_goto (tgt := 6) hx hb dX1_run_191 (by decide) ?_
                  exact ih (y2) (y3) (y4) ((y5 + 1)) hM hw (lv_sub hl [3, 4, 5, 6, 7, 0] rfl)
                · replace hM := h_f hc hM
                  refine lv_iload hx hb dX1_run_149 (lv_at hl 6 rfl) ?_
                  refine lv_iconst (v := (2 : Int32)) hx hb dX1_run_151 (by decide) ?_
                  refine lv_icmp_lt (tgt := 188) hx hb dX1_run_152 (by decide) (fun hc => ?_) (fun hc => ?_)
                  · replace hM := h_t hc hM
                    refine lv_iinc (v := (y5 + 1)) (lv' := [(5, .int (y5 + 1)), (7, .int ((gI ι 22 y5.toNatClampNeg) &&& (127 : Int32))), (6, .int ((gI ι 22 y5.toNatClampNeg) >>> ((7 : Int32) &&& 31))), (0, .ref (ad 21)), (1, .ref (ad x1)), (2, .int y2), (3, .int y3), (4, .int y4)]) hx hb dX1_run_188 hl (k := 7) rfl rfl (by decide) rfl (fun ls hl => ?_)
                    refine lv_goto (tgt := 6) hx hb dX1_run_191 (by decide) ?_
                    exact ih (y2) (y3) (y4) ((y5 + 1)) hM hw (lv_sub hl [3, 4, 5, 6, 7, 0] rfl)
                  · replace hM := h_f hc hM
                    refine lv_iinc (v := (y4 + (-1))) (lv' := [(4, .int (y4 + (-1))), (7, .int ((gI ι 22 y5.toNatClampNeg) &&& (127 : Int32))), (6, .int ((gI ι 22 y5.toNatClampNeg) >>> ((7 : Int32) &&& 31))), (0, .ref (ad 21)), (1, .ref (ad x1)), (2, .int y2), (3, .int y3), (5, .int y5)]) hx hb dX1_run_155 hl (k := 6) rfl rfl (by decide) rfl (fun ls hl => ?_)
                    refine lv_aload_n hx hb dX1_run_158 rfl (lv_at hl 3 rfl) ?_
                    refine a_getp (q := 23) (σ := aG ι) (o := 21) (T := TX1) (N := 3) C wU_X1 hw rfl (by decide) rfl 1 (by decide) rfl wF_X1_15 (aG_P rfl rfl) dX1_run_159 ?_
                    refine lv_iload hx hb dX1_run_162 (lv_at hl 0 rfl) ?_
                    refine lv_iconst (v := (1 : Int32)) hx hb dX1_run_164 (by decide) ?_
                    refine lv_isub hx hb dX1_run_165 ?_
                    refine lv_iload hx hb dX1_run_166 (lv_at hl 2 rfl) ?_
                    refine lv_aload_n hx hb dX1_run_168 rfl (lv_at hl 3 rfl) ?_
                    refine a_getp (q := 23) (σ := aG ι) (o := 21) (T := TX1) (N := 3) C wU_X1 hw rfl (by decide) rfl 1 (by decide) rfl wF_X1_15 (aG_P rfl rfl) dX1_run_169 ?_
                    refine lv_iload hx hb dX1_run_172 (lv_at hl 0 rfl) ?_
                    refine lv_iconst (v := (1 : Int32)) hx hb dX1_run_174 (by decide) ?_
                    refine lv_isub hx hb dX1_run_175 ?_
                    obtain ⟨hi, hM⟩ := h_i hM
                    refine a_lald (σ := aG ι) (o := 23) C hw rfl hi rfl dX1_run_176 ?_
                    refine lv_aload_n hx hb dX1_run_177 rfl (lv_at hl 3 rfl) ?_
                    refine a_getp (q := 23) (σ := aG ι) (o := 21) (T := TX1) (N := 3) C wU_X1 hw rfl (by decide) rfl 1 (by decide) rfl wF_X1_15 (aG_P rfl rfl) dX1_run_178 ?_
                    refine lv_iload hx hb dX1_run_181 (lv_at hl 0 rfl) ?_
                    obtain ⟨hi, hM⟩ := h_i hM
                    refine a_lald (σ := aG ι) (o := 23) C hw rfl hi rfl dX1_run_183 ?_
                    obtain ⟨r184, hr184, hM⟩ := h_b hM
                    refine a_callS  (σ' := aG r184.2) (v := (some (.long r184.1))) (as := fun ad => [.int ((gI ι 22 y5.toNatClampNeg) >>> ((7 : Int32) &&& 31)), .long (gJ ι 23 ((y4 + (-1)) - (1 : Int32)).toNatClampNeg), .long (gJ ι 23 (y4 + (-1)).toNatClampNeg)]) (rest := [.int ((y4 + (-1)) - (1 : Int32)), .ref (ad 23)]) C hw (c_X1_joined l hr184) k_X1_joined wM_X1_63 ⟨⟨rfl, rfl⟩, ⟨Nat.le_of_ble_eq_true rfl, Nat.le_of_ble_eq_true rfl⟩⟩ rfl hl rfl (Nat.le_of_ble_eq_true rfl) dX1_run_184 ⟨Nat.zero_le _, Nat.zero_le _⟩ (fun H locs hw => ?_)
                    obtain ⟨hi, hM⟩ := h_i hM
                    refine a_last (σ := aG r184.2) (o := 23) C hw rfl hi rfl dX1_run_187 (fun H locs hw => ?_)
                    have hw : aW D dA ad adV (aG (pJ r184.2 23 ((y4 + (-1)) - (1 : Int32)).toNatClampNeg r184.1)) A s H locs := hw
                    refine lv_iinc (v := (y5 + 1)) (lv' := [(5, .int (y5 + 1)), (4, .int (y4 + (-1))), (7, .int ((gI ι 22 y5.toNatClampNeg) &&& (127 : Int32))), (6, .int ((gI ι 22 y5.toNatClampNeg) >>> ((7 : Int32) &&& 31))), (0, .ref (ad 21)), (1, .ref (ad x1)), (2, .int y2), (3, .int y3)]) hx hb dX1_run_188 hl (k := 7) rfl rfl (by decide) rfl (fun ls hl => ?_)
                    refine lv_goto (tgt := 6) hx hb dX1_run_191 (by decide) ?_
                    exact ih (y2) (y3) ((y4 + (-1))) ((y5 + 1)) hM hw (lv_sub hl [4, 5, 6, 7, 1, 0] rfl)
              · replace hM := h_t hc hM
                refine lv_iload hx hb dX1_run_115 (lv_at hl 6 rfl) ?_
                refine lv_iconst (v := (1 : Int32)) hx hb dX1_run_117 (by decide) ?_
                refine lv_icmp_lt (tgt := 143) hx hb dX1_run_118 (by decide) (fun hc => ?_) (fun hc => ?_)
                · replace hM := h_t hc hM
                  refine lv_iload hx hb dX1_run_143 (lv_at hl 1 rfl) ?_
                  refine lv_iconst (v := (4 : Int32)) hx hb dX1_run_145 (by decide) ?_
                  refine lv_icmp_le (tgt := 188) hx hb dX1_run_146 (by decide) (fun hc => ?_) (fun hc => ?_)
                  · replace hM := h_t hc hM
                    refine lv_iinc (v := (y5 + 1)) (lv' := [(5, .int (y5 + 1)), (7, .int ((gI ι 22 y5.toNatClampNeg) &&& (127 : Int32))), (6, .int ((gI ι 22 y5.toNatClampNeg) >>> ((7 : Int32) &&& 31))), (0, .ref (ad 21)), (1, .ref (ad x1)), (2, .int y2), (3, .int y3), (4, .int y4)]) hx hb dX1_run_188 hl (k := 7) rfl rfl (by decide) rfl (fun ls hl => ?_)
                    refine lv_goto (tgt := 6) hx hb dX1_run_191 (by decide) ?_
                    exact ih (y2) (y3) (y4) ((y5 + 1)) hM hw (lv_sub hl [3, 4, 5, 6, 7, 0] rfl)
                  · replace hM := h_f hc hM
                    refine lv_iload hx hb dX1_run_149 (lv_at hl 6 rfl) ?_
                    refine lv_iconst (v := (2 : Int32)) hx hb dX1_run_151 (by decide) ?_
                    refine lv_icmp_lt (tgt := 188) hx hb dX1_run_152 (by decide) (fun hc => ?_) (fun hc => ?_)
                    · replace hM := h_t hc hM
                      refine lv_iinc (v := (y5 + 1)) (lv' := [(5, .int (y5 + 1)), (7, .int ((gI ι 22 y5.toNatClampNeg) &&& (127 : Int32))), (6, .int ((gI ι 22 y5.toNatClampNeg) >>> ((7 : Int32) &&& 31))), (0, .ref (ad 21)), (1, .ref (ad x1)), (2, .int y2), (3, .int y3), (4, .int y4)]) hx hb dX1_run_188 hl (k := 7) rfl rfl (by decide) rfl (fun ls hl => ?_)
                      refine lv_goto (tgt := 6) hx hb dX1_run_191 (by decide) ?_
                      exact ih (y2) (y3) (y4) ((y5 + 1)) hM hw (lv_sub hl [3, 4, 5, 6, 7, 0] rfl)
                    · replace hM := h_f hc hM
                      refine lv_iinc (v := (y4 + (-1))) (lv' := [(4, .int (y4 + (-1))), (7, .int ((gI ι 22 y5.toNatClampNeg) &&& (127 : Int32))), (6, .int ((gI ι 22 y5.toNatClampNeg) >>> ((7 : Int32) &&& 31))), (0, .ref (ad 21)), (1, .ref (ad x1)), (2, .int y2), (3, .int y3), (5, .int y5)]) hx hb dX1_run_155 hl (k := 6) rfl rfl (by decide) rfl (fun ls hl => ?_)
                      refine lv_aload_n hx hb dX1_run_158 rfl (lv_at hl 3 rfl) ?_
                      refine a_getp (q := 23) (σ := aG ι) (o := 21) (T := TX1) (N := 3) C wU_X1 hw rfl (by decide) rfl 1 (by decide) rfl wF_X1_15 (aG_P rfl rfl) dX1_run_159 ?_
                      refine lv_iload hx hb dX1_run_162 (lv_at hl 0 rfl) ?_
                      refine lv_iconst (v := (1 : Int32)) hx hb dX1_run_164 (by decide) ?_
                      refine lv_isub hx hb dX1_run_165 ?_
                      refine lv_iload hx hb dX1_run_166 (lv_at hl 2 rfl) ?_
                      refine lv_aload_n hx hb dX1_run_168 rfl (lv_at hl 3 rfl) ?_
                      refine a_getp (q := 23) (σ := aG ι) (o := 21) (T := TX1) (N := 3) C wU_X1 hw rfl (by decide) rfl 1 (by decide) rfl wF_X1_15 (aG_P rfl rfl) dX1_run_169 ?_
                      refine lv_iload hx hb dX1_run_172 (lv_at hl 0 rfl) ?_
                      refine lv_iconst (v := (1 : Int32)) hx hb dX1_run_174 (by decide) ?_
                      refine lv_isub hx hb dX1_run_175 ?_
                      obtain ⟨hi, hM⟩ := h_i hM
                      refine a_lald (σ := aG ι) (o := 23) C hw rfl hi rfl dX1_run_176 ?_
                      refine lv_aload_n hx hb dX1_run_177 rfl (lv_at hl 3 rfl) ?_
                      refine a_getp (q := 23) (σ := aG ι) (o := 21) (T := TX1) (N := 3) C wU_X1 hw rfl (by decide) rfl 1 (by decide) rfl wF_X1_15 (aG_P rfl rfl) dX1_run_178 ?_
                      refine lv_iload hx hb dX1_run_181 (lv_at hl 0 rfl) ?_
                      obtain ⟨hi, hM⟩ := h_i hM
                      refine a_lald (σ := aG ι) (o := 23) C hw rfl hi rfl dX1_run_183 ?_
                      obtain ⟨r184, hr184, hM⟩ := h_b hM
                      refine a_callS  (σ' := aG r184.2) (v := (some (.long r184.1))) (as := fun ad => [.int ((gI ι 22 y5.toNatClampNeg) >>> ((7 : Int32) &&& 31)), .long (gJ ι 23 ((y4 + (-1)) - (1 : Int32)).toNatClampNeg), .long (gJ ι 23 (y4 + (-1)).toNatClampNeg)]) (rest := [.int ((y4 + (-1)) - (1 : Int32)), .ref (ad 23)]) C hw (c_X1_joined l hr184) k_X1_joined wM_X1_63 ⟨⟨rfl, rfl⟩, ⟨Nat.le_of_ble_eq_true rfl, Nat.le_of_ble_eq_true rfl⟩⟩ rfl hl rfl (Nat.le_of_ble_eq_true rfl) dX1_run_184 ⟨Nat.zero_le _, Nat.zero_le _⟩ (fun H locs hw => ?_)
                      obtain ⟨hi, hM⟩ := h_i hM
                      refine a_last (σ := aG r184.2) (o := 23) C hw rfl hi rfl dX1_run_187 (fun H locs hw => ?_)
                      have hw : aW D dA ad adV (aG (pJ r184.2 23 ((y4 + (-1)) - (1 : Int32)).toNatClampNeg r184.1)) A s H locs := hw
                      refine lv_iinc (v := (y5 + 1)) (lv' := [(5, .int (y5 + 1)), (4, .int (y4 + (-1))), (7, .int ((gI ι 22 y5.toNatClampNeg) &&& (127 : Int32))), (6, .int ((gI ι 22 y5.toNatClampNeg) >>> ((7 : Int32) &&& 31))), (0, .ref (ad 21)), (1, .ref (ad x1)), (2, .int y2), (3, .int y3)]) hx hb dX1_run_188 hl (k := 7) rfl rfl (by decide) rfl (fun ls hl => ?_)
                      refine lv_goto (tgt := 6) hx hb dX1_run_191 (by decide) ?_
                      exact ih (y2) (y3) ((y4 + (-1))) ((y5 + 1)) hM hw (lv_sub hl [4, 5, 6, 7, 1, 0] rfl)
                · replace hM := h_f hc hM
                  refine lv_aload_n hx hb dX1_run_121 rfl (lv_at hl 2 rfl) ?_
                  refine a_getp (q := 23) (σ := aG ι) (o := 21) (T := TX1) (N := 3) C wU_X1 hw rfl (by decide) rfl 1 (by decide) rfl wF_X1_15 (aG_P rfl rfl) dX1_run_122 ?_
                  refine lv_iload hx hb dX1_run_125 (lv_at hl 6 rfl) ?_
                  refine lv_iconst (v := (1 : Int32)) hx hb dX1_run_127 (by decide) ?_
                  refine lv_isub hx hb dX1_run_128 ?_
                  refine lv_aload_n hx hb dX1_run_129 rfl (lv_at hl 2 rfl) ?_
                  refine a_getp (q := 23) (σ := aG ι) (o := 21) (T := TX1) (N := 3) C wU_X1 hw rfl (by decide) rfl 1 (by decide) rfl wF_X1_15 (aG_P rfl rfl) dX1_run_130 ?_
                  refine lv_iload hx hb dX1_run_133 (lv_at hl 6 rfl) ?_
                  refine lv_iconst (v := (1 : Int32)) hx hb dX1_run_135 (by decide) ?_
                  refine lv_isub hx hb dX1_run_136 ?_
                  obtain ⟨hi, hM⟩ := h_i hM
                  refine a_lald (σ := aG ι) (o := 23) C hw rfl hi rfl dX1_run_137 ?_
                  refine lv_lneg hx hb dX1_run_138 ?_
                  obtain ⟨hi, hM⟩ := h_i hM
                  refine a_last (σ := aG ι) (o := 23) C hw rfl hi rfl dX1_run_139 (fun H locs hw => ?_)
                  have hw : aW D dA ad adV (aG (pJ ι 23 (y4 - (1 : Int32)).toNatClampNeg (-(gJ ι 23 (y4 - (1 : Int32)).toNatClampNeg)))) A s H locs := hw
                  refine lv_goto (tgt := 188) hx hb dX1_run_140 (by decide) ?_
                  refine lv_iinc (v := (y5 + 1)) (lv' := [(5, .int (y5 + 1)), (7, .int ((gI ι 22 y5.toNatClampNeg) &&& (127 : Int32))), (6, .int ((gI ι 22 y5.toNatClampNeg) >>> ((7 : Int32) &&& 31))), (0, .ref (ad 21)), (1, .ref (ad x1)), (2, .int y2), (3, .int y3), (4, .int y4)]) hx hb dX1_run_188 hl (k := 7) rfl rfl (by decide) rfl (fun ls hl => ?_)
                  refine lv_goto (tgt := 6) hx hb dX1_run_191 (by decide) ?_
                  exact ih (y2) (y3) (y4) ((y5 + 1)) hM hw (lv_sub hl [3, 4, 5, 6, 7, 0] rfl)
            · replace hM := h_f hc hM
              refine lv_iload hx hb dX1_run_80 (lv_at hl 0 rfl) ?_
              refine lv_iconst (v := (5 : Int32)) hx hb dX1_run_82 (by decide) ?_
              refine lv_icmp_ge (tgt := 109) hx hb dX1_run_83 (by decide) (fun hc => ?_) (fun hc => ?_)
              · replace hM := h_t hc hM
                refine lv_iload hx hb dX1_run_109 (lv_at hl 1 rfl) ?_
                refine lv_iconst (v := (4 : Int32)) hx hb dX1_run_111 (by decide) ?_
                refine lv_icmp_ne (tgt := 143) hx hb dX1_run_112 (by decide) (fun hc => ?_) (fun hc => ?_)
                · replace hM := h_f hc hM
                  refine lv_iload hx hb dX1_run_143 (lv_at hl 1 rfl) ?_
                  refine lv_iconst (v := (4 : Int32)) hx hb dX1_run_145 (by decide) ?_
                  refine lv_icmp_le (tgt := 188) hx hb dX1_run_146 (by decide) (fun hc => ?_) (fun hc => ?_)
                  · replace hM := h_t hc hM
                    refine lv_iinc (v := (y5 + 1)) (lv' := [(5, .int (y5 + 1)), (7, .int ((gI ι 22 y5.toNatClampNeg) &&& (127 : Int32))), (6, .int ((gI ι 22 y5.toNatClampNeg) >>> ((7 : Int32) &&& 31))), (0, .ref (ad 21)), (1, .ref (ad x1)), (2, .int y2), (3, .int y3), (4, .int y4)]) hx hb dX1_run_188 hl (k := 7) rfl rfl (by decide) rfl (fun ls hl => ?_)
                    refine lv_goto (tgt := 6) hx hb dX1_run_191 (by decide) ?_
                    exact ih (y2) (y3) (y4) ((y5 + 1)) hM hw (lv_sub hl [3, 4, 5, 6, 7, 0] rfl)
                  · replace hM := h_f hc hM
                    refine lv_iload hx hb dX1_run_149 (lv_at hl 6 rfl) ?_
                    refine lv_iconst (v := (2 : Int32)) hx hb dX1_run_151 (by decide) ?_
                    refine lv_icmp_lt (tgt := 188) hx hb dX1_run_152 (by decide) (fun hc => ?_) (fun hc => ?_)
                    · replace hM := h_t hc hM
                      refine lv_iinc (v := (y5 + 1)) (lv' := [(5, .int (y5 + 1)), (7, .int ((gI ι 22 y5.toNatClampNeg) &&& (127 : Int32))), (6, .int ((gI ι 22 y5.toNatClampNeg) >>> ((7 : Int32) &&& 31))), (0, .ref (ad 21)), (1, .ref (ad x1)), (2, .int y2), (3, .int y3), (4, .int y4)]) hx hb dX1_run_188 hl (k := 7) rfl rfl (by decide) rfl (fun ls hl => ?_)
                      refine lv_goto (tgt := 6) hx hb dX1_run_191 (by decide) ?_
                      exact ih (y2) (y3) (y4) ((y5 + 1)) hM hw (lv_sub hl [3, 4, 5, 6, 7, 0] rfl)
                    · replace hM := h_f hc hM
                      refine lv_iinc (v := (y4 + (-1))) (lv' := [(4, .int (y4 + (-1))), (7, .int ((gI ι 22 y5.toNatClampNeg) &&& (127 : Int32))), (6, .int ((gI ι 22 y5.toNatClampNeg) >>> ((7 : Int32) &&& 31))), (0, .ref (ad 21)), (1, .ref (ad x1)), (2, .int y2), (3, .int y3), (5, .int y5)]) hx hb dX1_run_155 hl (k := 6) rfl rfl (by decide) rfl (fun ls hl => ?_)
                      refine lv_aload_n hx hb dX1_run_158 rfl (lv_at hl 3 rfl) ?_
                      refine a_getp (q := 23) (σ := aG ι) (o := 21) (T := TX1) (N := 3) C wU_X1 hw rfl (by decide) rfl 1 (by decide) rfl wF_X1_15 (aG_P rfl rfl) dX1_run_159 ?_
                      refine lv_iload hx hb dX1_run_162 (lv_at hl 0 rfl) ?_
                      refine lv_iconst (v := (1 : Int32)) hx hb dX1_run_164 (by decide) ?_
                      refine lv_isub hx hb dX1_run_165 ?_
                      refine lv_iload hx hb dX1_run_166 (lv_at hl 2 rfl) ?_
                      refine lv_aload_n hx hb dX1_run_168 rfl (lv_at hl 3 rfl) ?_
                      refine a_getp (q := 23) (σ := aG ι) (o := 21) (T := TX1) (N := 3) C wU_X1 hw rfl (by decide) rfl 1 (by decide) rfl wF_X1_15 (aG_P rfl rfl) dX1_run_169 ?_
                      refine lv_iload hx hb dX1_run_172 (lv_at hl 0 rfl) ?_
                      refine lv_iconst (v := (1 : Int32)) hx hb dX1_run_174 (by decide) ?_
                      refine lv_isub hx hb dX1_run_175 ?_
                      obtain ⟨hi, hM⟩ := h_i hM
                      refine a_lald (σ := aG ι) (o := 23) C hw rfl hi rfl dX1_run_176 ?_
                      refine lv_aload_n hx hb dX1_run_177 rfl (lv_at hl 3 rfl) ?_
                      refine a_getp (q := 23) (σ := aG ι) (o := 21) (T := TX1) (N := 3) C wU_X1 hw rfl (by decide) rfl 1 (by decide) rfl wF_X1_15 (aG_P rfl rfl) dX1_run_178 ?_
                      refine lv_iload hx hb dX1_run_181 (lv_at hl 0 rfl) ?_
                      obtain ⟨hi, hM⟩ := h_i hM
                      refine a_lald (σ := aG ι) (o := 23) C hw rfl hi rfl dX1_run_183 ?_
                      obtain ⟨r184, hr184, hM⟩ := h_b hM
                      refine a_callS  (σ' := aG r184.2) (v := (some (.long r184.1))) (as := fun ad => [.int ((gI ι 22 y5.toNatClampNeg) >>> ((7 : Int32) &&& 31)), .long (gJ ι 23 ((y4 + (-1)) - (1 : Int32)).toNatClampNeg), .long (gJ ι 23 (y4 + (-1)).toNatClampNeg)]) (rest := [.int ((y4 + (-1)) - (1 : Int32)), .ref (ad 23)]) C hw (c_X1_joined l hr184) k_X1_joined wM_X1_63 ⟨⟨rfl, rfl⟩, ⟨Nat.le_of_ble_eq_true rfl, Nat.le_of_ble_eq_true rfl⟩⟩ rfl hl rfl (Nat.le_of_ble_eq_true rfl) dX1_run_184 ⟨Nat.zero_le _, Nat.zero_le _⟩ (fun H locs hw => ?_)
                      obtain ⟨hi, hM⟩ := h_i hM
                      refine a_last (σ := aG r184.2) (o := 23) C hw rfl hi rfl dX1_run_187 (fun H locs hw => ?_)
                      have hw : aW D dA ad adV (aG (pJ r184.2 23 ((y4 + (-1)) - (1 : Int32)).toNatClampNeg r184.1)) A s H locs := hw
                      refine lv_iinc (v := (y5 + 1)) (lv' := [(5, .int (y5 + 1)), (4, .int (y4 + (-1))), (7, .int ((gI ι 22 y5.toNatClampNeg) &&& (127 : Int32))), (6, .int ((gI ι 22 y5.toNatClampNeg) >>> ((7 : Int32) &&& 31))), (0, .ref (ad 21)), (1, .ref (ad x1)), (2, .int y2), (3, .int y3)]) hx hb dX1_run_188 hl (k := 7) rfl rfl (by decide) rfl (fun ls hl => ?_)
                      refine lv_goto (tgt := 6) hx hb dX1_run_191 (by decide) ?_
                      exact ih (y2) (y3) ((y4 + (-1))) ((y5 + 1)) hM hw (lv_sub hl [4, 5, 6, 7, 1, 0] rfl)
                · replace hM := h_t hc hM
                  refine lv_iload hx hb dX1_run_115 (lv_at hl 6 rfl) ?_
                  refine lv_iconst (v := (1 : Int32)) hx hb dX1_run_117 (by decide) ?_
                  refine lv_icmp_lt (tgt := 143) hx hb dX1_run_118 (by decide) (fun hc => ?_) (fun hc => ?_)
                  · replace hM := h_t hc hM
                    refine lv_iload hx hb dX1_run_143 (lv_at hl 1 rfl) ?_
                    refine lv_iconst (v := (4 : Int32)) hx hb dX1_run_145 (by decide) ?_
                    refine lv_icmp_le (tgt := 188) hx hb dX1_run_146 (by decide) (fun hc => ?_) (fun hc => ?_)
                    · replace hM := h_t hc hM
                      refine lv_iinc (v := (y5 + 1)) (lv' := [(5, .int (y5 + 1)), (7, .int ((gI ι 22 y5.toNatClampNeg) &&& (127 : Int32))), (6, .int ((gI ι 22 y5.toNatClampNeg) >>> ((7 : Int32) &&& 31))), (0, .ref (ad 21)), (1, .ref (ad x1)), (2, .int y2), (3, .int y3), (4, .int y4)]) hx hb dX1_run_188 hl (k := 7) rfl rfl (by decide) rfl (fun ls hl => ?_)
                      refine lv_goto (tgt := 6) hx hb dX1_run_191 (by decide) ?_
                      exact ih (y2) (y3) (y4) ((y5 + 1)) hM hw (lv_sub hl [3, 4, 5, 6, 7, 0] rfl)
                    · replace hM := h_f hc hM
                      refine lv_iload hx hb dX1_run_149 (lv_at hl 6 rfl) ?_
                      refine lv_iconst (v := (2 : Int32)) hx hb dX1_run_151 (by decide) ?_
                      refine lv_icmp_lt (tgt := 188) hx hb dX1_run_152 (by decide) (fun hc => ?_) (fun hc => ?_)
                      · replace hM := h_t hc hM
                        refine lv_iinc (v := (y5 + 1)) (lv' := [(5, .int (y5 + 1)), (7, .int ((gI ι 22 y5.toNatClampNeg) &&& (127 : Int32))), (6, .int ((gI ι 22 y5.toNatClampNeg) >>> ((7 : Int32) &&& 31))), (0, .ref (ad 21)), (1, .ref (ad x1)), (2, .int y2), (3, .int y3), (4, .int y4)]) hx hb dX1_run_188 hl (k := 7) rfl rfl (by decide) rfl (fun ls hl => ?_)
                        refine lv_goto (tgt := 6) hx hb dX1_run_191 (by decide) ?_
                        exact ih (y2) (y3) (y4) ((y5 + 1)) hM hw (lv_sub hl [3, 4, 5, 6, 7, 0] rfl)
                      · replace hM := h_f hc hM
                        refine lv_iinc (v := (y4 + (-1))) (lv' := [(4, .int (y4 + (-1))), (7, .int ((gI ι 22 y5.toNatClampNeg) &&& (127 : Int32))), (6, .int ((gI ι 22 y5.toNatClampNeg) >>> ((7 : Int32) &&& 31))), (0, .ref (ad 21)), (1, .ref (ad x1)), (2, .int y2), (3, .int y3), (5, .int y5)]) hx hb dX1_run_155 hl (k := 6) rfl rfl (by decide) rfl (fun ls hl => ?_)
                        refine lv_aload_n hx hb dX1_run_158 rfl (lv_at hl 3 rfl) ?_
                        refine a_getp (q := 23) (σ := aG ι) (o := 21) (T := TX1) (N := 3) C wU_X1 hw rfl (by decide) rfl 1 (by decide) rfl wF_X1_15 (aG_P rfl rfl) dX1_run_159 ?_
                        refine lv_iload hx hb dX1_run_162 (lv_at hl 0 rfl) ?_
                        refine lv_iconst (v := (1 : Int32)) hx hb dX1_run_164 (by decide) ?_
                        refine lv_isub hx hb dX1_run_165 ?_
                        refine lv_iload hx hb dX1_run_166 (lv_at hl 2 rfl) ?_
                        refine lv_aload_n hx hb dX1_run_168 rfl (lv_at hl 3 rfl) ?_
                        refine a_getp (q := 23) (σ := aG ι) (o := 21) (T := TX1) (N := 3) C wU_X1 hw rfl (by decide) rfl 1 (by decide) rfl wF_X1_15 (aG_P rfl rfl) dX1_run_169 ?_
                        refine lv_iload hx hb dX1_run_172 (lv_at hl 0 rfl) ?_
                        refine lv_iconst (v := (1 : Int32)) hx hb dX1_run_174 (by decide) ?_
                        refine lv_isub hx hb dX1_run_175 ?_
                        obtain ⟨hi, hM⟩ := h_i hM
                        refine a_lald (σ := aG ι) (o := 23) C hw rfl hi rfl dX1_run_176 ?_
                        refine lv_aload_n hx hb dX1_run_177 rfl (lv_at hl 3 rfl) ?_
                        refine a_getp (q := 23) (σ := aG ι) (o := 21) (T := TX1) (N := 3) C wU_X1 hw rfl (by decide) rfl 1 (by decide) rfl wF_X1_15 (aG_P rfl rfl) dX1_run_178 ?_
                        refine lv_iload hx hb dX1_run_181 (lv_at hl 0 rfl) ?_
                        obtain ⟨hi, hM⟩ := h_i hM
                        refine a_lald (σ := aG ι) (o := 23) C hw rfl hi rfl dX1_run_183 ?_
                        obtain ⟨r184, hr184, hM⟩ := h_b hM
                        refine a_callS  (σ' := aG r184.2) (v := (some (.long r184.1))) (as := fun ad => [.int ((gI ι 22 y5.toNatClampNeg) >>> ((7 : Int32) &&& 31)), .long (gJ ι 23 ((y4 + (-1)) - (1 : Int32)).toNatClampNeg), .long (gJ ι 23 (y4 + (-1)).toNatClampNeg)]) (rest := [.int ((y4 + (-1)) - (1 : Int32)), .ref (ad 23)]) C hw (c_X1_joined l hr184) k_X1_joined wM_X1_63 ⟨⟨rfl, rfl⟩, ⟨Nat.le_of_ble_eq_true rfl, Nat.le_of_ble_eq_true rfl⟩⟩ rfl hl rfl (Nat.le_of_ble_eq_true rfl) dX1_run_184 ⟨Nat.zero_le _, Nat.zero_le _⟩ (fun H locs hw => ?_)
                        obtain ⟨hi, hM⟩ := h_i hM
                        refine a_last (σ := aG r184.2) (o := 23) C hw rfl hi rfl dX1_run_187 (fun H locs hw => ?_)
                        have hw : aW D dA ad adV (aG (pJ r184.2 23 ((y4 + (-1)) - (1 : Int32)).toNatClampNeg r184.1)) A s H locs := hw
                        refine lv_iinc (v := (y5 + 1)) (lv' := [(5, .int (y5 + 1)), (4, .int (y4 + (-1))), (7, .int ((gI ι 22 y5.toNatClampNeg) &&& (127 : Int32))), (6, .int ((gI ι 22 y5.toNatClampNeg) >>> ((7 : Int32) &&& 31))), (0, .ref (ad 21)), (1, .ref (ad x1)), (2, .int y2), (3, .int y3)]) hx hb dX1_run_188 hl (k := 7) rfl rfl (by decide) rfl (fun ls hl => ?_)
                        refine lv_goto (tgt := 6) hx hb dX1_run_191 (by decide) ?_
                        exact ih (y2) (y3) ((y4 + (-1))) ((y5 + 1)) hM hw (lv_sub hl [4, 5, 6, 7, 1, 0] rfl)
                  · replace hM := h_f hc hM
                    refine lv_aload_n hx hb dX1_run_121 rfl (lv_at hl 2 rfl) ?_
                    refine a_getp (q := 23) (σ := aG ι) (o := 21) (T := TX1) (N := 3) C wU_X1 hw rfl (by decide) rfl 1 (by decide) rfl wF_X1_15 (aG_P rfl rfl) dX1_run_122 ?_
                    refine lv_iload hx hb dX1_run_125 (lv_at hl 6 rfl) ?_
                    refine lv_iconst (v := (1 : Int32)) hx hb dX1_run_127 (by decide) ?_
                    refine lv_isub hx hb dX1_run_128 ?_
                    refine lv_aload_n hx hb dX1_run_129 rfl (lv_at hl 2 rfl) ?_
                    refine a_getp (q := 23) (σ := aG ι) (o := 21) (T := TX1) (N := 3) C wU_X1 hw rfl (by decide) rfl 1 (by decide) rfl wF_X1_15 (aG_P rfl rfl) dX1_run_130 ?_
                    refine lv_iload hx hb dX1_run_133 (lv_at hl 6 rfl) ?_
                    refine lv_iconst (v := (1 : Int32)) hx hb dX1_run_135 (by decide) ?_
                    refine lv_isub hx hb dX1_run_136 ?_
                    obtain ⟨hi, hM⟩ := h_i hM
                    refine a_lald (σ := aG ι) (o := 23) C hw rfl hi rfl dX1_run_137 ?_
                    refine lv_lneg hx hb dX1_run_138 ?_
                    obtain ⟨hi, hM⟩ := h_i hM
                    refine a_last (σ := aG ι) (o := 23) C hw rfl hi rfl dX1_run_139 (fun H locs hw => ?_)
                    have hw : aW D dA ad adV (aG (pJ ι 23 (y4 - (1 : Int32)).toNatClampNeg (-(gJ ι 23 (y4 - (1 : Int32)).toNatClampNeg)))) A s H locs := hw
                    refine lv_goto (tgt := 188) hx hb dX1_run_140 (by decide) ?_
                    refine lv_iinc (v := (y5 + 1)) (lv' := [(5, .int (y5 + 1)), (7, .int ((gI ι 22 y5.toNatClampNeg) &&& (127 : Int32))), (6, .int ((gI ι 22 y5.toNatClampNeg) >>> ((7 : Int32) &&& 31))), (0, .ref (ad 21)), (1, .ref (ad x1)), (2, .int y2), (3, .int y3), (4, .int y4)]) hx hb dX1_run_188 hl (k := 7) rfl rfl (by decide) rfl (fun ls hl => ?_)
                    refine lv_goto (tgt := 6) hx hb dX1_run_191 (by decide) ?_
                    exact ih (y2) (y3) (y4) ((y5 + 1)) hM hw (lv_sub hl [3, 4, 5, 6, 7, 0] rfl)
              · replace hM := h_f hc hM
                refine lv_aload_n hx hb dX1_run_86 rfl (lv_at hl 2 rfl) ?_
                refine a_getp (q := 23) (σ := aG ι) (o := 21) (T := TX1) (N := 3) C wU_X1 hw rfl (by decide) rfl 1 (by decide) rfl wF_X1_15 (aG_P rfl rfl) dX1_run_87 ?_
                refine lv_iload hx hb dX1_run_90 (lv_at hl 6 rfl) ?_
                refine lv_iload hx hb dX1_run_92 (lv_at hl 1 rfl) ?_
                refine lv_iload hx hb dX1_run_94 (lv_at hl 0 rfl) ?_
                refine lv_aload_n hx hb dX1_run_96 rfl (lv_at hl 3 rfl) ?_
                refine lv_iload_n hx hb dX1_run_97 rfl (lv_at hl 4 rfl) ?_
                refine lv_iload_n hx hb dX1_run_98 rfl (lv_at hl 5 rfl) ?_
                obtain ⟨r99, hr99, hM⟩ := h_b hM
                refine a_callS  (σ' := aG r99.2) (v := (some (.long r99.1))) (as := fun ad => [.int ((gI ι 22 y5.toNatClampNeg) >>> ((7 : Int32) &&& 31)), .int ((gI ι 22 y5.toNatClampNeg) &&& (127 : Int32)), .ref (ad x1), .int y2, .int y3]) (rest := [.int y4, .ref (ad 23)]) C hw (c_X1_ofTrait l (hx1) hr99) k_X1_ofTrait wM_X1_59 ⟨⟨rfl, rfl⟩, ⟨Nat.le_of_ble_eq_true rfl, Nat.le_of_ble_eq_true rfl⟩⟩ rfl hl rfl (Nat.le_of_ble_eq_true rfl) dX1_run_99 ⟨Nat.zero_le _, Nat.zero_le _⟩ (fun H locs hw => ?_)
                obtain ⟨hi, hM⟩ := h_i hM
                refine a_last (σ := aG r99.2) (o := 23) C hw rfl hi rfl dX1_run_102 (fun H locs hw => ?_)
                have hw : aW D dA ad adV (aG (pJ r99.2 23 y4.toNatClampNeg r99.1)) A s H locs := hw
                refine lv_iinc (v := (y4 + 1)) (lv' := [(4, .int (y4 + 1)), (7, .int ((gI ι 22 y5.toNatClampNeg) &&& (127 : Int32))), (6, .int ((gI ι 22 y5.toNatClampNeg) >>> ((7 : Int32) &&& 31))), (0, .ref (ad 21)), (1, .ref (ad x1)), (2, .int y2), (3, .int y3), (5, .int y5)]) hx hb dX1_run_103 hl (k := 6) rfl rfl (by decide) rfl (fun ls hl => ?_)
                refine lv_goto (tgt := 188) hx hb dX1_run_106 (by decide) ?_
                refine lv_iinc (v := (y5 + 1)) (lv' := [(5, .int (y5 + 1)), (4, .int (y4 + 1)), (7, .int ((gI ι 22 y5.toNatClampNeg) &&& (127 : Int32))), (6, .int ((gI ι 22 y5.toNatClampNeg) >>> ((7 : Int32) &&& 31))), (0, .ref (ad 21)), (1, .ref (ad x1)), (2, .int y2), (3, .int y3)]) hx hb dX1_run_188 hl (k := 7) rfl rfl (by decide) rfl (fun ls hl => ?_)
                refine lv_goto (tgt := 6) hx hb dX1_run_191 (by decide) ?_
                exact ih (y2) (y3) ((y4 + 1)) ((y5 + 1)) hM hw (lv_sub hl [4, 5, 6, 7, 1, 0] rfl)
        · replace hM := h_f hc hM
          refine lv_aload_n hx hb dX1_run_51 rfl (lv_at hl 2 rfl) ?_
          refine a_getp (q := 23) (σ := aG ι) (o := 21) (T := TX1) (N := 3) C wU_X1 hw rfl (by decide) rfl 1 (by decide) rfl wF_X1_15 (aG_P rfl rfl) dX1_run_52 ?_
          refine lv_iload hx hb dX1_run_55 (lv_at hl 6 rfl) ?_
          refine lv_iload hx hb dX1_run_57 (lv_at hl 0 rfl) ?_
          refine lv_i2l hx hb dX1_run_59 rfl ?_
          obtain ⟨hi, hM⟩ := h_i hM
          refine a_last (σ := aG ι) (o := 23) C hw rfl hi rfl dX1_run_60 (fun H locs hw => ?_)
          have hw : aW D dA ad adV (aG (pJ ι 23 y4.toNatClampNeg (((gI ι 22 y5.toNatClampNeg) &&& (127 : Int32))).toInt64)) A s H locs := hw
          refine lv_iinc (v := (y4 + 1)) (lv' := [(4, .int (y4 + 1)), (7, .int ((gI ι 22 y5.toNatClampNeg) &&& (127 : Int32))), (6, .int ((gI ι 22 y5.toNatClampNeg) >>> ((7 : Int32) &&& 31))), (0, .ref (ad 21)), (1, .ref (ad x1)), (2, .int y2), (3, .int y3), (5, .int y5)]) hx hb dX1_run_61 hl (k := 6) rfl rfl (by decide) rfl (fun ls hl => ?_)
          refine lv_goto (tgt := 188) hx hb dX1_run_64 (by decide) ?_
          refine lv_iinc (v := (y5 + 1)) (lv' := [(5, .int (y5 + 1)), (4, .int (y4 + 1)), (7, .int ((gI ι 22 y5.toNatClampNeg) &&& (127 : Int32))), (6, .int ((gI ι 22 y5.toNatClampNeg) >>> ((7 : Int32) &&& 31))), (0, .ref (ad 21)), (1, .ref (ad x1)), (2, .int y2), (3, .int y3)]) hx hb dX1_run_188 hl (k := 7) rfl rfl (by decide) rfl (fun ls hl => ?_)
          refine lv_goto (tgt := 6) hx hb dX1_run_191 (by decide) ?_
          exact ih (y2) (y3) ((y4 + 1)) ((y5 + 1)) hM hw (lv_sub hl [4, 5, 6, 7, 1, 0] rfl)
theorem k_X1_run : aCal RX1 yX1_run cX1_run 8 (some .long) 3 := ⟨wI_yX1_run, wE_yX1_run, wZ_X1, wC_yX1_run, by decide +kernel⟩
set_option maxHeartbeats 4000000 in
set_option maxRecDepth 100000 in
theorem c_X1_run (l : Launch) {x1 : Nat} {x2 : Int32} {x3 : Int32} (hx1 : aLin x1 = true) {ι : iS} {res : Int64 × iS} (hM : m_X1_run x1 x2 x3 ι = some res) : aM l yX1_run cX1_run 8 (some .long) rm_X1_run (fun ad => [.ref (ad 21), .ref (ad x1), .int x2, .int x3]) (aG ι) (some (.long res.1)) (aG res.2) := by
  refine aM.of (by decide) (fun _ => Nat.le_of_ble_eq_true rfl) ?_
  intro p e s m args below meth c D dA ad adV A ls C hw hl
  have C : aX p m c cX1_run 8 s args aTs RX1 meth (some .long) := C
  have hx := C.1.1
  have hb := C.1.2.1
  have hml := C.1.2.2.1
  have hown := C.1.2.2.2.1
  have hts := C.1.2.2.2.2
  have hl : lv_has ls 8 [(0, .ref (ad 21)), (1, .ref (ad x1)), (2, .int x2), (3, .int x3)] := hl
  unfold m_X1_run at hM
  refine lv_iconst (v := (0 : Int32)) hx hb dX1_run_0 (by decide) ?_
  refine lv_istore (lv' := [(4, .int (0 : Int32)), (0, .ref (ad 21)), (1, .ref (ad x1)), (2, .int x2), (3, .int x3)]) hx hb dX1_run_1 hl (by decide) rfl (fun ls hl => ?_)
  refine lv_iconst (v := (0 : Int32)) hx hb dX1_run_3 (by decide) ?_
  refine lv_istore (lv' := [(5, .int (0 : Int32)), (4, .int (0 : Int32)), (0, .ref (ad 21)), (1, .ref (ad x1)), (2, .int x2), (3, .int x3)]) hx hb dX1_run_4 hl (by decide) rfl (fun ls hl => ?_)
  exact tl_X1_run_6 l C hx1 aF (x2) (x3) ((0 : Int32)) ((0 : Int32)) hM hw (lv_sub hl [2, 3, 4, 5, 1, 0] rfl)
def rm_X1_rateOne : Room := { frames := 4, cells := 0, slots := 0, locals := 103 }
theorem k_X1_rateOne : aCal RX1 yX1_rateOne cX1_rateOne 5 (some .int) 3 := ⟨wI_yX1_rateOne, wE_yX1_rateOne, wZ_X1, wC_yX1_rateOne, by decide +kernel⟩
set_option maxHeartbeats 4000000 in
set_option maxRecDepth 100000 in
theorem c_X1_rateOne (l : Launch) {x1 : Nat} {x2 : Int32} {x3 : Int32} (hx1 : aLin x1 = true) {ι : iS} {res : Int32 × iS} (hM : m_X1_rateOne x1 x2 x3 ι = some res) : aM l yX1_rateOne cX1_rateOne 5 (some .int) rm_X1_rateOne (fun ad => [.ref (ad 21), .ref (ad x1), .int x2, .int x3]) (aG ι) (some (.int res.1)) (aG res.2) := by
  refine aM.of (by decide) (fun _ => Nat.le_of_ble_eq_true rfl) ?_
  intro p e s m args below meth c D dA ad adV A ls C hw hl
  have C : aX p m c cX1_rateOne 5 s args aTs RX1 meth (some .int) := C
  have hx := C.1.1
  have hb := C.1.2.1
  have hml := C.1.2.2.1
  have hown := C.1.2.2.2.1
  have hts := C.1.2.2.2.2
  have hl : lv_has ls 5 [(0, .ref (ad 21)), (1, .ref (ad x1)), (2, .int x2), (3, .int x3)] := hl
  unfold m_X1_rateOne at hM
  refine lv_aload_n hx hb dX1_rateOne_0 rfl (lv_at hl 0 rfl) ?_
  refine a_geti (σ := aG ι) (o := 21) (T := TX1) (N := 3) C wU_X1 hw rfl (by decide) rfl 2 (by decide) rfl wF_X1_19 dX1_rateOne_1 ?_
  refine lv_if_ne (tgt := 16) hx hb dX1_rateOne_4 (by decide) (fun hc => ?_) (fun hc => ?_)
  · replace hM := h_f hc hM
    refine lv_aload_n hx hb dX1_rateOne_16 rfl (lv_at hl 0 rfl) ?_
    refine lv_aload_n hx hb dX1_rateOne_17 rfl (lv_at hl 1 rfl) ?_
    refine lv_iload_n hx hb dX1_rateOne_18 rfl (lv_at hl 2 rfl) ?_
    refine lv_iload_n hx hb dX1_rateOne_19 rfl (lv_at hl 3 rfl) ?_
    obtain ⟨r20, hr20, hM⟩ := h_b hM
    refine a_callV (σ' := aG r20.2) (v := (some (.long r20.1))) (As := fun ad => [.ref (ad x1), .int x2, .int x3]) (rest := []) (o := 21) C hw (c_X1_run l (hx1) hr20) k_X1_run wM_X1_41 ⟨⟨rfl, rfl⟩, ⟨Nat.le_of_ble_eq_true rfl, Nat.le_of_ble_eq_true rfl⟩⟩ rfl (by decide) rfl rfl rfl hl rfl (Nat.le_of_ble_eq_true rfl) dX1_rateOne_20 ⟨Nat.zero_le _, Nat.zero_le _⟩ (fun H locs hw => ?_)
    refine lv_l2i hx hb dX1_rateOne_23 rfl ?_
    refine lv_istore (lv' := [(4, .int (r20.1).toInt32), (0, .ref (ad 21)), (1, .ref (ad x1)), (2, .int x2), (3, .int x3)]) hx hb dX1_rateOne_24 hl (by decide) rfl (fun ls hl => ?_)
    refine lv_iload hx hb dX1_rateOne_26 (lv_at hl 0 rfl) ?_
    refine lv_iconst (v := (0 : Int32)) hx hb dX1_rateOne_28 (by decide) ?_
    refine lv_bipush (v := (99 : Int32)) hx hb dX1_rateOne_29 (by decide) ?_
    obtain ⟨r31, hr31, hM⟩ := h_b hM
    refine a_callSN (host := "LineupDesk") (σ' := aG r31.2) (v := (some (.int r31.1))) (as := fun ad => [.int (r20.1).toInt32, .int (0 : Int32), .int (99 : Int32)]) (rest := []) C hw (c_X6_held l hr31) k_X6_held (by decide) ⟨⟨rfl, rfl⟩, ⟨Nat.le_of_ble_eq_true rfl, Nat.le_of_ble_eq_true rfl⟩⟩ rfl hl rfl (Nat.le_of_ble_eq_true rfl) dX1_rateOne_31 ⟨Nat.zero_le _, Nat.zero_le _⟩ (fun H locs hw => ?_)
    cases h_e hM
    exact a_iret C hw dX1_rateOne_34
  · replace hM := h_t hc hM
    refine lv_aload_n hx hb dX1_rateOne_7 rfl (lv_at hl 1 rfl) ?_
    refine lv_iload_n hx hb dX1_rateOne_8 rfl (lv_at hl 2 rfl) ?_
    refine lv_iload_n hx hb dX1_rateOne_9 rfl (lv_at hl 3 rfl) ?_
    obtain ⟨r10, hr10, hM⟩ := h_b hM
    refine a_callS  (σ' := aG r10.2) (v := (some (.int r10.1))) (as := fun ad => [.ref (ad x1), .int x2, .int x3]) (rest := []) C hw (c_X1_plainRate l (hx1) hr10) k_X1_plainRate wM_X1_38 ⟨⟨rfl, rfl⟩, ⟨Nat.le_of_ble_eq_true rfl, Nat.le_of_ble_eq_true rfl⟩⟩ rfl hl rfl (Nat.le_of_ble_eq_true rfl) dX1_rateOne_10 ⟨Nat.zero_le _, Nat.zero_le _⟩ (fun H locs hw => ?_)
    refine lv_goto (tgt := 24) hx hb dX1_rateOne_13 (by decide) ?_
    refine lv_istore (lv' := [(4, .int r10.1), (0, .ref (ad 21)), (1, .ref (ad x1)), (2, .int x2), (3, .int x3)]) hx hb dX1_rateOne_24 hl (by decide) rfl (fun ls hl => ?_)
    refine lv_iload hx hb dX1_rateOne_26 (lv_at hl 0 rfl) ?_
    refine lv_iconst (v := (0 : Int32)) hx hb dX1_rateOne_28 (by decide) ?_
    refine lv_bipush (v := (99 : Int32)) hx hb dX1_rateOne_29 (by decide) ?_
    obtain ⟨r31, hr31, hM⟩ := h_b hM
    refine a_callSN (host := "LineupDesk") (σ' := aG r31.2) (v := (some (.int r31.1))) (as := fun ad => [.int r10.1, .int (0 : Int32), .int (99 : Int32)]) (rest := []) C hw (c_X6_held l hr31) k_X6_held (by decide) ⟨⟨rfl, rfl⟩, ⟨Nat.le_of_ble_eq_true rfl, Nat.le_of_ble_eq_true rfl⟩⟩ rfl hl rfl (Nat.le_of_ble_eq_true rfl) dX1_rateOne_31 ⟨Nat.zero_le _, Nat.zero_le _⟩ (fun H locs hw => ?_)
    cases h_e hM
    exact a_iret C hw dX1_rateOne_34
def rm_X1_rate : Room := { frames := 5, cells := 0, slots := 0, locals := 127 }
set_option maxHeartbeats 4000000 in
set_option maxRecDepth 100000 in
theorem tl_X1_rate_2 (l : Launch) {p : Program} {e : Env} {s : State} {m : MethodId} {args : Array Value} {below : List Frame} {meth : Method} {c : Code} {D : va_G} {dA : Nat → ClassId} {ad adV : Nat → Nat} {A : Nat → Prop} (C : aX p m c cX1_rate 3 s args aTs RX1 meth none) {x1 : Nat} (hx1 : aLin x1 = true) {res : iS} : ∀ (n : Nat) (y2 : Int32) {ι : iS}, l_X1_rate_2 x1 n y2 ι = some res → ∀ {H : Heap} {locs : List Loc} {ls : Array Slot}, aW D dA ad adV (aG ι) A s H locs → lv_has ls 3 [(0, .ref (ad 21)), (1, .ref (ad x1)), (2, .int y2)] → W p l e rm_X1_rate s m args below meth c H locs 0 0 (MQ below (aQ D dA ad (aG res) A none) args s 0 0 A) (F0 m 2 ls []) := by
  have hx := C.1.1
  have hb := C.1.2.1
  have hml := C.1.2.2.1
  have hown := C.1.2.2.2.1
  have hts := C.1.2.2.2.2
  intro n
  induction n with
  | zero => intro y2 ι hM; simp [l_X1_rate_2] at hM
  | succ n ih =>
    intro y2 ι hM H locs ls hw hl
    rw [l_X1_rate_2] at hM
    refine lv_iload_n hx hb dX1_rate_2 rfl (lv_at hl 2 rfl) ?_
    refine lv_aload_n hx hb dX1_rate_3 rfl (lv_at hl 1 rfl) ?_
    refine a_geti (σ := aG ι) (o := x1) (T := TX2) (N := 11) C wU_X2 hw (aLin_k hx1).1 (by decide) rfl 1 (by decide) rfl wF_X1_23 dX1_rate_4 ?_
    refine lv_icmp_ge (tgt := 42) hx hb dX1_rate_7 (by decide) (fun hc => ?_) (fun hc => ?_)
    · replace hM := h_t hc hM
      cases h_e hM
      exact a_vret C hw dX1_rate_42
    · replace hM := h_f hc hM
      refine lv_aload_n hx hb dX1_rate_10 rfl (lv_at hl 1 rfl) ?_
      refine a_getp (q := (x1 + 7)) (σ := aG ι) (o := x1) (T := TX2) (N := 11) C wU_X2 hw (aLin_k hx1).1 (by decide) rfl 9 (by decide) rfl wF_X1_28 (aLin_p hx1 ι 6 (by decide)) dX1_rate_11 ?_
      refine lv_iload_n hx hb dX1_rate_14 rfl (lv_at hl 2 rfl) ?_
      refine lv_aload_n hx hb dX1_rate_15 rfl (lv_at hl 0 rfl) ?_
      refine lv_aload_n hx hb dX1_rate_16 rfl (lv_at hl 1 rfl) ?_
      refine lv_iload_n hx hb dX1_rate_17 rfl (lv_at hl 2 rfl) ?_
      refine lv_iconst (v := (0 : Int32)) hx hb dX1_rate_18 (by decide) ?_
      obtain ⟨r19, hr19, hM⟩ := h_b hM
      refine a_callV (σ' := aG r19.2) (v := (some (.int r19.1))) (As := fun ad => [.ref (ad x1), .int y2, .int (0 : Int32)]) (rest := [.int y2, .ref (ad (x1 + 7))]) (o := 21) C hw (c_X1_rateOne l (hx1) hr19) k_X1_rateOne wM_X1_31 ⟨⟨rfl, rfl⟩, ⟨Nat.le_of_ble_eq_true rfl, Nat.le_of_ble_eq_true rfl⟩⟩ rfl (by decide) rfl rfl rfl hl rfl (Nat.le_of_ble_eq_true rfl) dX1_rate_19 ⟨Nat.zero_le _, Nat.zero_le _⟩ (fun H locs hw => ?_)
      obtain ⟨hi, hM⟩ := h_i hM
      refine a_iast (σ := aG r19.2) (o := (x1 + 7)) C hw (aLin_k hx1).2.2.2.2.2.2.2.1 hi rfl dX1_rate_22 (fun H locs hw => ?_)
      have hw : aW D dA ad adV (aG (pI r19.2 (x1 + 7) y2.toNatClampNeg r19.1)) A s H locs := hw
      refine lv_aload_n hx hb dX1_rate_23 rfl (lv_at hl 1 rfl) ?_
      refine a_getp (q := (x1 + 8)) (σ := aG (pI r19.2 (x1 + 7) y2.toNatClampNeg r19.1)) (o := x1) (T := TX2) (N := 11) C wU_X2 hw (aLin_k hx1).1 (by decide) rfl 10 (by decide) rfl wF_X1_35 (aLin_p hx1 (pI r19.2 (x1 + 7) y2.toNatClampNeg r19.1) 7 (by decide)) dX1_rate_24 ?_
      refine lv_iload_n hx hb dX1_rate_27 rfl (lv_at hl 2 rfl) ?_
      refine lv_aload_n hx hb dX1_rate_28 rfl (lv_at hl 0 rfl) ?_
      refine lv_aload_n hx hb dX1_rate_29 rfl (lv_at hl 1 rfl) ?_
      refine lv_iload_n hx hb dX1_rate_30 rfl (lv_at hl 2 rfl) ?_
      refine lv_iconst (v := (1 : Int32)) hx hb dX1_rate_31 (by decide) ?_
      obtain ⟨r32, hr32, hM⟩ := h_b hM
      refine a_callV (σ' := aG r32.2) (v := (some (.int r32.1))) (As := fun ad => [.ref (ad x1), .int y2, .int (1 : Int32)]) (rest := [.int y2, .ref (ad (x1 + 8))]) (o := 21) C hw (c_X1_rateOne l (hx1) hr32) k_X1_rateOne wM_X1_31 ⟨⟨rfl, rfl⟩, ⟨Nat.le_of_ble_eq_true rfl, Nat.le_of_ble_eq_true rfl⟩⟩ rfl (by decide) rfl rfl rfl hl rfl (Nat.le_of_ble_eq_true rfl) dX1_rate_32 ⟨Nat.zero_le _, Nat.zero_le _⟩ (fun H locs hw => ?_)
      obtain ⟨hi, hM⟩ := h_i hM
      refine a_iast (σ := aG r32.2) (o := (x1 + 8)) C hw (aLin_k hx1).2.2.2.2.2.2.2.2 hi rfl dX1_rate_35 (fun H locs hw => ?_)
      have hw : aW D dA ad adV (aG (pI r32.2 (x1 + 8) y2.toNatClampNeg r32.1)) A s H locs := hw
      refine lv_iinc (v := (y2 + 1)) (lv' := [(2, .int (y2 + 1)), (0, .ref (ad 21)), (1, .ref (ad x1))]) hx hb dX1_rate_36 hl (k := 2) rfl rfl (by decide) rfl (fun ls hl => ?_)
      refine lv_goto (tgt := 2) hx hb dX1_rate_39 (by decide) ?_
      exact ih ((y2 + 1)) hM hw (lv_sub hl [1, 2, 0] rfl)
theorem k_X1_rate : aCal RX1 yX1_rate cX1_rate 3 none 1 := ⟨wI_yX1_rate, wE_yX1_rate, wZ_X1, wC_yX1_rate, by decide +kernel⟩
set_option maxHeartbeats 4000000 in
set_option maxRecDepth 100000 in
theorem c_X1_rate (l : Launch) {x1 : Nat} (hx1 : aLin x1 = true) {ι : iS} {res : iS} (hM : m_X1_rate x1 ι = some res) : aM l yX1_rate cX1_rate 3 none rm_X1_rate (fun ad => [.ref (ad 21), .ref (ad x1)]) (aG ι) none (aG res) := by
  refine aM.of (by decide) (fun _ => Nat.le_of_ble_eq_true rfl) ?_
  intro p e s m args below meth c D dA ad adV A ls C hw hl
  have C : aX p m c cX1_rate 3 s args aTs RX1 meth none := C
  have hx := C.1.1
  have hb := C.1.2.1
  have hml := C.1.2.2.1
  have hown := C.1.2.2.2.1
  have hts := C.1.2.2.2.2
  have hl : lv_has ls 3 [(0, .ref (ad 21)), (1, .ref (ad x1))] := hl
  unfold m_X1_rate at hM
  refine lv_iconst (v := (0 : Int32)) hx hb dX1_rate_0 (by decide) ?_
  refine lv_istore_n (lv' := [(2, .int (0 : Int32)), (0, .ref (ad 21)), (1, .ref (ad x1))]) hx hb dX1_rate_1 rfl hl (by decide) rfl (fun ls hl => ?_)
  exact tl_X1_rate_2 l C hx1 aF ((0 : Int32)) hM hw (lv_sub hl [1, 2, 0] rfl)
def rm_X6_putBytes : Room := { frames := 0, cells := 0, slots := 0, locals := 0 }
set_option maxHeartbeats 4000000 in
set_option maxRecDepth 100000 in
theorem tl_X6_putBytes_3 (l : Launch) {p : Program} {e : Env} {s : State} {m : MethodId} {args : Array Value} {below : List Frame} {meth : Method} {c : Code} {D : va_G} {dA : Nat → ClassId} {ad adV : Nat → Nat} {A : Nat → Prop} (C : aX p m c cX6_putBytes 3 s args aTs RX6 meth none) {res : iS} : ∀ (n : Nat) (y1 : Int32) (y2 : Int32) {ι : iS}, l_X6_putBytes_3 n y1 y2 ι = some res → ∀ {H : Heap} {locs : List Loc} {ls : Array Slot}, aW D dA ad adV (aG ι) A s H locs → lv_has ls 3 [(0, .ref (ad 0)), (1, .int y1), (2, .int y2)] → W p l e rm_X6_putBytes s m args below meth c H locs 0 0 (MQ below (aQ D dA ad (aG res) A none) args s 0 0 A) (F0 m 3 ls []) := by
  have hx := C.1.1
  have hb := C.1.2.1
  have hml := C.1.2.2.1
  have hown := C.1.2.2.2.1
  have hts := C.1.2.2.2.2
  intro n
  induction n with
  | zero => intro y1 y2 ι hM; simp [l_X6_putBytes_3] at hM
  | succ n ih =>
    intro y1 y2 ι hM H locs ls hw hl
    rw [l_X6_putBytes_3] at hM
    refine lv_iload_n hx hb dX6_putBytes_3 rfl (lv_at hl 2 rfl) ?_
    refine lv_if_lt (tgt := 48) hx hb dX6_putBytes_4 (by decide) (fun hc => ?_) (fun hc => ?_)
    · replace hM := h_t hc hM
      cases h_e hM
      exact a_vret C hw dX6_putBytes_48
    · replace hM := h_f hc hM
      refine lv_aload_n hx hb dX6_putBytes_7 rfl (lv_at hl 0 rfl) ?_
      refine a_geti (σ := aG ι) (o := 0) (T := TX6) (N := 11) C wU_X6 hw rfl (by decide) rfl 1 (by decide) rfl wF_X6_13 dX6_putBytes_8 ?_
      refine lv_aload_n hx hb dX6_putBytes_11 rfl (lv_at hl 0 rfl) ?_
      refine a_getp (q := 1) (σ := aG ι) (o := 0) (T := TX6) (N := 11) C wU_X6 hw rfl (by decide) rfl 0 (by decide) rfl wF_X6_9 (aG_P rfl rfl) dX6_putBytes_12 ?_
      refine a_alen (σ := aG ι) (v := (500 : Int32)) C hw rfl (by decide) (by decide) (by decide) dX6_putBytes_15 ?_
      refine lv_icmp_ge (tgt := 42) hx hb dX6_putBytes_16 (by decide) (fun hc => ?_) (fun hc => ?_)
      · replace hM := h_t hc hM
        refine lv_iinc (v := (y2 + (-8))) (lv' := [(2, .int (y2 + (-8))), (0, .ref (ad 0)), (1, .int y1)]) hx hb dX6_putBytes_42 hl (k := 2) rfl rfl (by decide) rfl (fun ls hl => ?_)
        refine lv_goto (tgt := 3) hx hb dX6_putBytes_45 (by decide) ?_
        exact ih (y1) ((y2 + (-8))) hM hw (lv_sub hl [1, 2, 0] rfl)
      · replace hM := h_f hc hM
        refine lv_aload_n hx hb dX6_putBytes_19 rfl (lv_at hl 0 rfl) ?_
        refine a_getp (q := 1) (σ := aG ι) (o := 0) (T := TX6) (N := 11) C wU_X6 hw rfl (by decide) rfl 0 (by decide) rfl wF_X6_9 (aG_P rfl rfl) dX6_putBytes_20 ?_
        refine lv_aload_n hx hb dX6_putBytes_23 rfl (lv_at hl 0 rfl) ?_
        refine a_geti (σ := aG ι) (o := 0) (T := TX6) (N := 11) C wU_X6 hw rfl (by decide) rfl 1 (by decide) rfl wF_X6_13 dX6_putBytes_24 ?_
        refine lv_iload_n hx hb dX6_putBytes_27 rfl (lv_at hl 1 rfl) ?_
        refine lv_iload_n hx hb dX6_putBytes_28 rfl (lv_at hl 2 rfl) ?_
        refine lv_ishr hx hb dX6_putBytes_29 ?_
        refine lv_i2b hx hb dX6_putBytes_30 rfl ?_
        obtain ⟨hi, hM⟩ := h_i hM
        refine a_bast (σ := aG ι) (o := 1) C hw rfl hi rfl dX6_putBytes_31 (fun H locs hw => ?_)
        have hw : aW D dA ad adV (aG (pI ι 1 (gI ι 0 1).toNatClampNeg (vp_nar .byte ((y1 >>> (y2 &&& 31))).toInt8.toInt32))) A s H locs := hw
        refine lv_aload_n hx hb dX6_putBytes_32 rfl (lv_at hl 0 rfl) ?_
        refine lv_dup hx hb dX6_putBytes_33 rfl ?_
        refine a_geti (σ := aG (pI ι 1 (gI ι 0 1).toNatClampNeg (vp_nar .byte ((y1 >>> (y2 &&& 31))).toInt8.toInt32))) (o := 0) (T := TX6) (N := 11) C wU_X6 hw rfl (by decide) rfl 1 (by decide) rfl wF_X6_13 dX6_putBytes_34 ?_
        refine lv_iconst (v := (1 : Int32)) hx hb dX6_putBytes_37 (by decide) ?_
        refine lv_iadd hx hb dX6_putBytes_38 ?_
        refine a_puti (ty := .int) (σ := aG (pI ι 1 (gI ι 0 1).toNatClampNeg (vp_nar .byte ((y1 >>> (y2 &&& 31))).toInt8.toInt32))) (o := 0) (T := TX6) (N := 11) (ty0 := tyX6) C wU_X6 tyX6_ok nmX6 hw rfl (by decide) rfl 1 (by decide) rfl wF_X6_13 rfl (by decide +kernel) rfl rfl dX6_putBytes_39 (fun H locs hw => ?_)
        have hw : aW D dA ad adV (aG (pI (pI ι 1 (gI ι 0 1).toNatClampNeg (vp_nar .byte ((y1 >>> (y2 &&& 31))).toInt8.toInt32)) 0 1 ((gI (pI ι 1 (gI ι 0 1).toNatClampNeg (vp_nar .byte ((y1 >>> (y2 &&& 31))).toInt8.toInt32)) 0 1) + (1 : Int32)))) A s H locs := hw
        refine lv_iinc (v := (y2 + (-8))) (lv' := [(2, .int (y2 + (-8))), (0, .ref (ad 0)), (1, .int y1)]) hx hb dX6_putBytes_42 hl (k := 2) rfl rfl (by decide) rfl (fun ls hl => ?_)
        refine lv_goto (tgt := 3) hx hb dX6_putBytes_45 (by decide) ?_
        exact ih (y1) ((y2 + (-8))) hM hw (lv_sub hl [1, 2, 0] rfl)
theorem k_X6_putBytes : aCal RX6 yX6_putBytes cX6_putBytes 3 none 1 := ⟨wI_yX6_putBytes, wE_yX6_putBytes, wZ_X6, wC_yX6_putBytes, by decide +kernel⟩
set_option maxHeartbeats 4000000 in
set_option maxRecDepth 100000 in
theorem c_X6_putBytes (l : Launch) {x1 : Int32} {ι : iS} {res : iS} (hM : m_X6_putBytes x1 ι = some res) : aM l yX6_putBytes cX6_putBytes 3 none rm_X6_putBytes (fun ad => [.ref (ad 0), .int x1]) (aG ι) none (aG res) := by
  refine aM.of (by decide) (fun _ => Nat.le_of_ble_eq_true rfl) ?_
  intro p e s m args below meth c D dA ad adV A ls C hw hl
  have C : aX p m c cX6_putBytes 3 s args aTs RX6 meth none := C
  have hx := C.1.1
  have hb := C.1.2.1
  have hml := C.1.2.2.1
  have hown := C.1.2.2.2.1
  have hts := C.1.2.2.2.2
  have hl : lv_has ls 3 [(0, .ref (ad 0)), (1, .int x1)] := hl
  unfold m_X6_putBytes at hM
  refine lv_bipush (v := (24 : Int32)) hx hb dX6_putBytes_0 (by decide) ?_
  refine lv_istore_n (lv' := [(2, .int (24 : Int32)), (0, .ref (ad 0)), (1, .int x1)]) hx hb dX6_putBytes_2 rfl hl (by decide) rfl (fun ls hl => ?_)
  exact tl_X6_putBytes_3 l C aF (x1) ((24 : Int32)) hM hw (lv_sub hl [1, 2, 0] rfl)
def rm_X6_keepPast : Room := { frames := 2, cells := 0, slots := 0, locals := 81 }
set_option maxHeartbeats 4000000 in
set_option maxRecDepth 100000 in
theorem tl_X6_keepPast_18 (l : Launch) {p : Program} {e : Env} {s : State} {m : MethodId} {args : Array Value} {below : List Frame} {meth : Method} {c : Code} {D : va_G} {dA : Nat → ClassId} {ad adV : Nat → Nat} {A : Nat → Prop} (C : aX p m c cX6_keepPast 3 s args aTs RX6 meth none) {res : iS} : ∀ (n : Nat) (y1 : Nat) (y2 : Int32) (hky1 : aLin y1 = true) {ι : iS}, l_X6_keepPast_18 n y1 y2 ι = some res → ∀ {H : Heap} {locs : List Loc} {ls : Array Slot}, aW D dA ad adV (aG ι) A s H locs → lv_has ls 3 [(0, .ref (ad 0)), (1, .ref (ad y1)), (2, .int y2)] → W p l e rm_X6_keepPast s m args below meth c H locs 0 0 (MQ below (aQ D dA ad (aG res) A none) args s 0 0 A) (F0 m 18 ls []) := by
  have hx := C.1.1
  have hb := C.1.2.1
  have hml := C.1.2.2.1
  have hown := C.1.2.2.2.1
  have hts := C.1.2.2.2.2
  intro n
  induction n with
  | zero => intro y1 y2 hky1 ι hM; simp [l_X6_keepPast_18] at hM
  | succ n ih =>
    intro y1 y2 hky1 ι hM H locs ls hw hl
    rw [l_X6_keepPast_18] at hM
    refine lv_iload_n hx hb dX6_keepPast_18 rfl (lv_at hl 2 rfl) ?_
    refine lv_bipush (v := (8 : Int32)) hx hb dX6_keepPast_19 (by decide) ?_
    refine lv_icmp_ge (tgt := 44) hx hb dX6_keepPast_21 (by decide) (fun hc => ?_) (fun hc => ?_)
    · replace hM := h_t hc hM
      refine lv_aload_n hx hb dX6_keepPast_44 rfl (lv_at hl 0 rfl) ?_
      refine a_getp (q := 29) (σ := aG ι) (o := 0) (T := TX6) (N := 11) C wU_X6 hw rfl (by decide) rfl 4 (by decide) rfl wF_X6_31 (aG_P rfl rfl) dX6_keepPast_45 ?_
      refine lv_bipush (v := (7 : Int32)) hx hb dX6_keepPast_48 (by decide) ?_
      refine lv_aload_n hx hb dX6_keepPast_50 rfl (lv_at hl 1 rfl) ?_
      refine a_aast (σ := aG ι) (o := 29) (q := y1) C hw rfl (aLin_k hky1).1 (aIn_v (by decide)) (show (7 : Int32).toNatClampNeg = 7 by decide) dX6_keepPast_51 (fun H locs hw => ?_)
      have hw : aW D dA ad adV (aG (pP ι 29 7 (some y1))) A s H locs := by rw [← aG_PP]; exact hw; rfl
      refine lv_aload_n hx hb dX6_keepPast_52 rfl (lv_at hl 0 rfl) ?_
      refine lv_dup hx hb dX6_keepPast_53 rfl ?_
      refine a_geti (σ := aG (pP ι 29 7 (some y1))) (o := 0) (T := TX6) (N := 11) C wU_X6 hw rfl (by decide) rfl 5 (by decide) rfl wF_X6_35 dX6_keepPast_54 ?_
      refine lv_iconst (v := (1 : Int32)) hx hb dX6_keepPast_57 (by decide) ?_
      refine lv_isub hx hb dX6_keepPast_58 ?_
      refine a_puti (ty := .int) (σ := aG (pP ι 29 7 (some y1))) (o := 0) (T := TX6) (N := 11) (ty0 := tyX6) C wU_X6 tyX6_ok nmX6 hw rfl (by decide) rfl 5 (by decide) rfl wF_X6_35 rfl (by decide +kernel) rfl rfl dX6_keepPast_59 (fun H locs hw => ?_)
      have hw : aW D dA ad adV (aG (pI (pP ι 29 7 (some y1)) 0 5 ((gI (pP ι 29 7 (some y1)) 0 5) - (1 : Int32)))) A s H locs := hw
      refine lv_aload_n hx hb dX6_keepPast_62 rfl (lv_at hl 0 rfl) ?_
      refine a_getp (q := 29) (σ := aG (pI (pP ι 29 7 (some y1)) 0 5 ((gI (pP ι 29 7 (some y1)) 0 5) - (1 : Int32)))) (o := 0) (T := TX6) (N := 11) C wU_X6 hw rfl (by decide) rfl 4 (by decide) rfl wF_X6_31 (aG_P rfl rfl) dX6_keepPast_63 ?_
      refine lv_aload_n hx hb dX6_keepPast_66 rfl (lv_at hl 0 rfl) ?_
      refine a_geti (σ := aG (pI (pP ι 29 7 (some y1)) 0 5 ((gI (pP ι 29 7 (some y1)) 0 5) - (1 : Int32)))) (o := 0) (T := TX6) (N := 11) C wU_X6 hw rfl (by decide) rfl 5 (by decide) rfl wF_X6_35 dX6_keepPast_67 ?_
      obtain ⟨hi, hM⟩ := h_i hM
      obtain ⟨q70, hq70, hM⟩ := h_b hM
      obtain ⟨hl70, hM⟩ := h_g hM
      refine a_aald (σ := aG (pI (pP ι 29 7 (some y1)) 0 5 ((gI (pP ι 29 7 (some y1)) 0 5) - (1 : Int32)))) (o := 29) (q := q70) C hw rfl hi rfl (aG_Pm rfl hq70) dX6_keepPast_70 ?_
      refine lv_aload_n hx hb dX6_keepPast_71 rfl (lv_at hl 0 rfl) ?_
      refine a_getp (q := 2) (σ := aG (pI (pP ι 29 7 (some y1)) 0 5 ((gI (pP ι 29 7 (some y1)) 0 5) - (1 : Int32)))) (o := 0) (T := TX6) (N := 11) C wU_X6 hw rfl (by decide) rfl 2 (by decide) rfl wF_X6_20 (aG_P rfl rfl) dX6_keepPast_72 ?_
      obtain ⟨r75, hr75, hM⟩ := h_b hM
      refine a_callV (σ' := aG r75) (v := none) (As := fun ad => [.ref (ad 2)]) (rest := []) (o := q70) C hw (c_X2_copyFrom l (hl70) (lin2) hr75) k_X2_copyFrom wM_X6_106 ⟨⟨rfl, rfl⟩, ⟨Nat.le_of_ble_eq_true rfl, Nat.le_of_ble_eq_true rfl⟩⟩ (aLin_k hl70).1 (by decide) rfl rfl rfl hl rfl (Nat.le_of_ble_eq_true rfl) dX6_keepPast_75 ⟨Nat.zero_le _, Nat.zero_le _⟩ (fun H locs hw => ?_)
      refine lv_aload_n hx hb dX6_keepPast_78 rfl (lv_at hl 0 rfl) ?_
      refine lv_dup hx hb dX6_keepPast_79 rfl ?_
      refine a_geti (σ := aG r75) (o := 0) (T := TX6) (N := 11) C wU_X6 hw rfl (by decide) rfl 5 (by decide) rfl wF_X6_35 dX6_keepPast_80 ?_
      refine lv_iconst (v := (1 : Int32)) hx hb dX6_keepPast_83 (by decide) ?_
      refine lv_iadd hx hb dX6_keepPast_84 ?_
      refine a_puti (ty := .int) (σ := aG r75) (o := 0) (T := TX6) (N := 11) (ty0 := tyX6) C wU_X6 tyX6_ok nmX6 hw rfl (by decide) rfl 5 (by decide) rfl wF_X6_35 rfl (by decide +kernel) rfl rfl dX6_keepPast_85 (fun H locs hw => ?_)
      have hw : aW D dA ad adV (aG (pI r75 0 5 ((gI r75 0 5) + (1 : Int32)))) A s H locs := hw
      cases h_e hM
      exact a_vret C hw dX6_keepPast_88
    · replace hM := h_f hc hM
      refine lv_aload_n hx hb dX6_keepPast_24 rfl (lv_at hl 0 rfl) ?_
      refine a_getp (q := 29) (σ := aG ι) (o := 0) (T := TX6) (N := 11) C wU_X6 hw rfl (by decide) rfl 4 (by decide) rfl wF_X6_31 (aG_P rfl rfl) dX6_keepPast_25 ?_
      refine lv_iload_n hx hb dX6_keepPast_28 rfl (lv_at hl 2 rfl) ?_
      refine lv_iconst (v := (1 : Int32)) hx hb dX6_keepPast_29 (by decide) ?_
      refine lv_isub hx hb dX6_keepPast_30 ?_
      refine lv_aload_n hx hb dX6_keepPast_31 rfl (lv_at hl 0 rfl) ?_
      refine a_getp (q := 29) (σ := aG ι) (o := 0) (T := TX6) (N := 11) C wU_X6 hw rfl (by decide) rfl 4 (by decide) rfl wF_X6_31 (aG_P rfl rfl) dX6_keepPast_32 ?_
      refine lv_iload_n hx hb dX6_keepPast_35 rfl (lv_at hl 2 rfl) ?_
      obtain ⟨hi, hM⟩ := h_i hM
      obtain ⟨q36, hq36, hM⟩ := h_b hM
      obtain ⟨hl36, hM⟩ := h_g hM
      refine a_aald (σ := aG ι) (o := 29) (q := q36) C hw rfl hi rfl (aG_Pm rfl hq36) dX6_keepPast_36 ?_
      obtain ⟨hi, hM⟩ := h_i hM
      refine a_aast (σ := aG ι) (o := 29) (q := q36) C hw rfl (aLin_k hl36).1 hi rfl dX6_keepPast_37 (fun H locs hw => ?_)
      have hw : aW D dA ad adV (aG (pP ι 29 (y2 - (1 : Int32)).toNatClampNeg (some q36))) A s H locs := by rw [← aG_PP]; exact hw; rfl
      refine lv_iinc (v := (y2 + 1)) (lv' := [(2, .int (y2 + 1)), (0, .ref (ad 0)), (1, .ref (ad y1))]) hx hb dX6_keepPast_38 hl (k := 2) rfl rfl (by decide) rfl (fun ls hl => ?_)
      refine lv_goto (tgt := 18) hx hb dX6_keepPast_41 (by decide) ?_
      exact ih (y1) ((y2 + 1)) hky1 hM hw (lv_sub hl [1, 2, 0] rfl)
theorem k_X6_keepPast : aCal RX6 yX6_keepPast cX6_keepPast 3 none 0 := ⟨wI_yX6_keepPast, wE_yX6_keepPast, wZ_X6, wC_yX6_keepPast, by decide +kernel⟩
set_option maxHeartbeats 4000000 in
set_option maxRecDepth 100000 in
theorem c_X6_keepPast (l : Launch) {ι : iS} {res : iS} (hM : m_X6_keepPast ι = some res) : aM l yX6_keepPast cX6_keepPast 3 none rm_X6_keepPast (fun ad => [.ref (ad 0)]) (aG ι) none (aG res) := by
  refine aM.of (by decide) (fun _ => Nat.le_of_ble_eq_true rfl) ?_
  intro p e s m args below meth c D dA ad adV A ls C hw hl
  have C : aX p m c cX6_keepPast 3 s args aTs RX6 meth none := C
  have hx := C.1.1
  have hb := C.1.2.1
  have hml := C.1.2.2.1
  have hown := C.1.2.2.2.1
  have hts := C.1.2.2.2.2
  have hl : lv_has ls 3 [(0, .ref (ad 0))] := hl
  unfold m_X6_keepPast at hM
  refine lv_aload_n hx hb dX6_keepPast_0 rfl (lv_at hl 0 rfl) ?_
  refine a_geti (σ := aG ι) (o := 0) (T := TX6) (N := 11) C wU_X6 hw rfl (by decide) rfl 5 (by decide) rfl wF_X6_35 dX6_keepPast_1 ?_
  refine lv_bipush (v := (8 : Int32)) hx hb dX6_keepPast_4 (by decide) ?_
  refine lv_icmp_ne (tgt := 62) hx hb dX6_keepPast_6 (by decide) (fun hc => ?_) (fun hc => ?_)
  · replace hM := h_f hc hM
    refine lv_aload_n hx hb dX6_keepPast_62 rfl (lv_at hl 0 rfl) ?_
    refine a_getp (q := 29) (σ := aG ι) (o := 0) (T := TX6) (N := 11) C wU_X6 hw rfl (by decide) rfl 4 (by decide) rfl wF_X6_31 (aG_P rfl rfl) dX6_keepPast_63 ?_
    refine lv_aload_n hx hb dX6_keepPast_66 rfl (lv_at hl 0 rfl) ?_
    refine a_geti (σ := aG ι) (o := 0) (T := TX6) (N := 11) C wU_X6 hw rfl (by decide) rfl 5 (by decide) rfl wF_X6_35 dX6_keepPast_67 ?_
    obtain ⟨hi, hM⟩ := h_i hM
    obtain ⟨q70, hq70, hM⟩ := h_b hM
    obtain ⟨hl70, hM⟩ := h_g hM
    refine a_aald (σ := aG ι) (o := 29) (q := q70) C hw rfl hi rfl (aG_Pm rfl hq70) dX6_keepPast_70 ?_
    refine lv_aload_n hx hb dX6_keepPast_71 rfl (lv_at hl 0 rfl) ?_
    refine a_getp (q := 2) (σ := aG ι) (o := 0) (T := TX6) (N := 11) C wU_X6 hw rfl (by decide) rfl 2 (by decide) rfl wF_X6_20 (aG_P rfl rfl) dX6_keepPast_72 ?_
    obtain ⟨r75, hr75, hM⟩ := h_b hM
    refine a_callV (σ' := aG r75) (v := none) (As := fun ad => [.ref (ad 2)]) (rest := []) (o := q70) C hw (c_X2_copyFrom l (hl70) (lin2) hr75) k_X2_copyFrom wM_X6_106 ⟨⟨rfl, rfl⟩, ⟨Nat.le_of_ble_eq_true rfl, Nat.le_of_ble_eq_true rfl⟩⟩ (aLin_k hl70).1 (by decide) rfl rfl rfl hl rfl (Nat.le_of_ble_eq_true rfl) dX6_keepPast_75 ⟨Nat.zero_le _, Nat.zero_le _⟩ (fun H locs hw => ?_)
    refine lv_aload_n hx hb dX6_keepPast_78 rfl (lv_at hl 0 rfl) ?_
    refine lv_dup hx hb dX6_keepPast_79 rfl ?_
    refine a_geti (σ := aG r75) (o := 0) (T := TX6) (N := 11) C wU_X6 hw rfl (by decide) rfl 5 (by decide) rfl wF_X6_35 dX6_keepPast_80 ?_
    refine lv_iconst (v := (1 : Int32)) hx hb dX6_keepPast_83 (by decide) ?_
    refine lv_iadd hx hb dX6_keepPast_84 ?_
    refine a_puti (ty := .int) (σ := aG r75) (o := 0) (T := TX6) (N := 11) (ty0 := tyX6) C wU_X6 tyX6_ok nmX6 hw rfl (by decide) rfl 5 (by decide) rfl wF_X6_35 rfl (by decide +kernel) rfl rfl dX6_keepPast_85 (fun H locs hw => ?_)
    have hw : aW D dA ad adV (aG (pI r75 0 5 ((gI r75 0 5) + (1 : Int32)))) A s H locs := hw
    cases h_e hM
    exact a_vret C hw dX6_keepPast_88
  · replace hM := h_t hc hM
    refine lv_aload_n hx hb dX6_keepPast_9 rfl (lv_at hl 0 rfl) ?_
    refine a_getp (q := 29) (σ := aG ι) (o := 0) (T := TX6) (N := 11) C wU_X6 hw rfl (by decide) rfl 4 (by decide) rfl wF_X6_31 (aG_P rfl rfl) dX6_keepPast_10 ?_
    refine lv_iconst (v := (0 : Int32)) hx hb dX6_keepPast_13 (by decide) ?_
    obtain ⟨hi, hM⟩ := h_i hM
    obtain ⟨q14, hq14, hM⟩ := h_b hM
    obtain ⟨hl14, hM⟩ := h_g hM
    refine a_aald (σ := aG ι) (o := 29) (q := q14) C hw rfl hi rfl (aG_Pm rfl hq14) dX6_keepPast_14 ?_
    refine lv_astore_n (lv' := [(1, .ref (ad q14)), (0, .ref (ad 0))]) hx hb dX6_keepPast_15 rfl hl (by decide) rfl (fun ls hl => ?_)
    refine lv_iconst (v := (1 : Int32)) hx hb dX6_keepPast_16 (by decide) ?_
    refine lv_istore_n (lv' := [(2, .int (1 : Int32)), (1, .ref (ad q14)), (0, .ref (ad 0))]) hx hb dX6_keepPast_17 rfl hl (by decide) rfl (fun ls hl => ?_)
    exact tl_X6_keepPast_18 l C aF (q14) ((1 : Int32)) hl14 hM hw (lv_sub hl [2, 1, 0] rfl)
def rm_X6_feed : Room := { frames := 1, cells := 0, slots := 0, locals := 22 }
theorem k_X6_feed : aCal RX6 yX6_feed cX6_feed 6 (some .int) 5 := ⟨wI_yX6_feed, wE_yX6_feed, wZ_X6, wC_yX6_feed, by decide +kernel⟩
set_option maxHeartbeats 4000000 in
set_option maxRecDepth 100000 in
theorem c_X6_feed (l : Launch) {x1 : Int32} {x2 : Int32} {x3 : Int32} {x4 : Int32} {x5 : Int32} {ι : iS} {res : Int32 × iS} (hM : m_X6_feed x1 x2 x3 x4 x5 ι = some res) : aM l yX6_feed cX6_feed 6 (some .int) rm_X6_feed (fun ad => [.ref (ad 0), .int x1, .int x2, .int x3, .int x4, .int x5]) (aG ι) (some (.int res.1)) (aG res.2) := by
  refine aM.of (by decide) (fun _ => Nat.le_of_ble_eq_true rfl) ?_
  intro p e s m args below meth c D dA ad adV A ls C hw hl
  have C : aX p m c cX6_feed 6 s args aTs RX6 meth (some .int) := C
  have hx := C.1.1
  have hb := C.1.2.1
  have hml := C.1.2.2.1
  have hown := C.1.2.2.2.1
  have hts := C.1.2.2.2.2
  have hl : lv_has ls 6 [(0, .ref (ad 0)), (1, .int x1), (2, .int x2), (3, .int x3), (4, .int x4), (5, .int x5)] := hl
  unfold m_X6_feed at hM
  refine lv_aload_n hx hb dX6_feed_0 rfl (lv_at hl 0 rfl) ?_
  refine a_geti (σ := aG ι) (o := 0) (T := TX6) (N := 11) C wU_X6 hw rfl (by decide) rfl 1 (by decide) rfl wF_X6_13 dX6_feed_1 ?_
  refine lv_bipush (v := (20 : Int32)) hx hb dX6_feed_4 (by decide) ?_
  refine lv_iadd hx hb dX6_feed_6 ?_
  refine lv_sipush (v := (500 : Int32)) hx hb dX6_feed_7 (by decide) ?_
  refine lv_icmp_le (tgt := 15) hx hb dX6_feed_10 (by decide) (fun hc => ?_) (fun hc => ?_)
  · replace hM := h_t hc hM
    refine lv_aload_n hx hb dX6_feed_15 rfl (lv_at hl 0 rfl) ?_
    refine lv_iload_n hx hb dX6_feed_16 rfl (lv_at hl 1 rfl) ?_
    obtain ⟨r17, hr17, hM⟩ := h_b hM
    refine a_callV (σ' := aG r17) (v := none) (As := fun ad => [.int x1]) (rest := []) (o := 0) C hw (c_X6_putBytes l hr17) k_X6_putBytes wM_X6_87 ⟨⟨rfl, rfl⟩, ⟨Nat.le_of_ble_eq_true rfl, Nat.le_of_ble_eq_true rfl⟩⟩ rfl (by decide) rfl rfl rfl hl rfl (Nat.le_of_ble_eq_true rfl) dX6_feed_17 ⟨Nat.zero_le _, Nat.zero_le _⟩ (fun H locs hw => ?_)
    refine lv_aload_n hx hb dX6_feed_20 rfl (lv_at hl 0 rfl) ?_
    refine lv_iload_n hx hb dX6_feed_21 rfl (lv_at hl 2 rfl) ?_
    obtain ⟨r22, hr22, hM⟩ := h_b hM
    refine a_callV (σ' := aG r22) (v := none) (As := fun ad => [.int x2]) (rest := []) (o := 0) C hw (c_X6_putBytes l hr22) k_X6_putBytes wM_X6_87 ⟨⟨rfl, rfl⟩, ⟨Nat.le_of_ble_eq_true rfl, Nat.le_of_ble_eq_true rfl⟩⟩ rfl (by decide) rfl rfl rfl hl rfl (Nat.le_of_ble_eq_true rfl) dX6_feed_22 ⟨Nat.zero_le _, Nat.zero_le _⟩ (fun H locs hw => ?_)
    refine lv_aload_n hx hb dX6_feed_25 rfl (lv_at hl 0 rfl) ?_
    refine lv_iload_n hx hb dX6_feed_26 rfl (lv_at hl 3 rfl) ?_
    obtain ⟨r27, hr27, hM⟩ := h_b hM
    refine a_callV (σ' := aG r27) (v := none) (As := fun ad => [.int x3]) (rest := []) (o := 0) C hw (c_X6_putBytes l hr27) k_X6_putBytes wM_X6_87 ⟨⟨rfl, rfl⟩, ⟨Nat.le_of_ble_eq_true rfl, Nat.le_of_ble_eq_true rfl⟩⟩ rfl (by decide) rfl rfl rfl hl rfl (Nat.le_of_ble_eq_true rfl) dX6_feed_27 ⟨Nat.zero_le _, Nat.zero_le _⟩ (fun H locs hw => ?_)
    refine lv_aload_n hx hb dX6_feed_30 rfl (lv_at hl 0 rfl) ?_
    refine lv_iload hx hb dX6_feed_31 (lv_at hl 4 rfl) ?_
    obtain ⟨r33, hr33, hM⟩ := h_b hM
    refine a_callV (σ' := aG r33) (v := none) (As := fun ad => [.int x4]) (rest := []) (o := 0) C hw (c_X6_putBytes l hr33) k_X6_putBytes wM_X6_87 ⟨⟨rfl, rfl⟩, ⟨Nat.le_of_ble_eq_true rfl, Nat.le_of_ble_eq_true rfl⟩⟩ rfl (by decide) rfl rfl rfl hl rfl (Nat.le_of_ble_eq_true rfl) dX6_feed_33 ⟨Nat.zero_le _, Nat.zero_le _⟩ (fun H locs hw => ?_)
    refine lv_aload_n hx hb dX6_feed_36 rfl (lv_at hl 0 rfl) ?_
    refine lv_iload hx hb dX6_feed_37 (lv_at hl 5 rfl) ?_
    obtain ⟨r39, hr39, hM⟩ := h_b hM
    refine a_callV (σ' := aG r39) (v := none) (As := fun ad => [.int x5]) (rest := []) (o := 0) C hw (c_X6_putBytes l hr39) k_X6_putBytes wM_X6_87 ⟨⟨rfl, rfl⟩, ⟨Nat.le_of_ble_eq_true rfl, Nat.le_of_ble_eq_true rfl⟩⟩ rfl (by decide) rfl rfl rfl hl rfl (Nat.le_of_ble_eq_true rfl) dX6_feed_39 ⟨Nat.zero_le _, Nat.zero_le _⟩ (fun H locs hw => ?_)
    refine lv_aload_n hx hb dX6_feed_42 rfl (lv_at hl 0 rfl) ?_
    refine a_geti (σ := aG r39) (o := 0) (T := TX6) (N := 11) C wU_X6 hw rfl (by decide) rfl 1 (by decide) rfl wF_X6_13 dX6_feed_43 ?_
    cases h_e hM
    exact a_iret C hw dX6_feed_46
  · replace hM := h_f hc hM
    refine lv_iconst (v := (-1 : Int32)) hx hb dX6_feed_13 (by decide) ?_
    cases h_e hM
    exact a_iret C hw dX6_feed_14
def rm_X6_fault : Room := { frames := 0, cells := 0, slots := 0, locals := 0 }
theorem k_X6_fault : aCal RX6 yX6_fault cX6_fault 1 (some .int) 0 := ⟨wI_yX6_fault, wE_yX6_fault, wZ_X6, wC_yX6_fault, by decide +kernel⟩
set_option maxHeartbeats 4000000 in
set_option maxRecDepth 100000 in
theorem c_X6_fault (l : Launch) {ι : iS} {res : Int32 × iS} (hM : m_X6_fault ι = some res) : aM l yX6_fault cX6_fault 1 (some .int) rm_X6_fault (fun ad => [.ref (ad 0)]) (aG ι) (some (.int res.1)) (aG res.2) := by
  refine aM.of (by decide) (fun _ => Nat.le_of_ble_eq_true rfl) ?_
  intro p e s m args below meth c D dA ad adV A ls C hw hl
  have C : aX p m c cX6_fault 1 s args aTs RX6 meth (some .int) := C
  have hx := C.1.1
  have hb := C.1.2.1
  have hml := C.1.2.2.1
  have hown := C.1.2.2.2.1
  have hts := C.1.2.2.2.2
  have hl : lv_has ls 1 [(0, .ref (ad 0))] := hl
  unfold m_X6_fault at hM
  refine lv_aload_n hx hb dX6_fault_0 rfl (lv_at hl 0 rfl) ?_
  refine a_geti (σ := aG ι) (o := 0) (T := TX6) (N := 11) C wU_X6 hw rfl (by decide) rfl 6 (by decide) rfl wF_X6_38 dX6_fault_1 ?_
  cases h_e hM
  exact a_iret C hw dX6_fault_4
def rm_X6_undo : Room := { frames := 2, cells := 0, slots := 0, locals := 81 }
theorem k_X6_undo : aCal RX6 yX6_undo cX6_undo 1 (some .int) 0 := ⟨wI_yX6_undo, wE_yX6_undo, wZ_X6, wC_yX6_undo, by decide +kernel⟩
set_option maxHeartbeats 4000000 in
set_option maxRecDepth 100000 in
theorem c_X6_undo (l : Launch) {ι : iS} {res : Int32 × iS} (hM : m_X6_undo ι = some res) : aM l yX6_undo cX6_undo 1 (some .int) rm_X6_undo (fun ad => [.ref (ad 0)]) (aG ι) (some (.int res.1)) (aG res.2) := by
  refine aM.of (by decide) (fun _ => Nat.le_of_ble_eq_true rfl) ?_
  intro p e s m args below meth c D dA ad adV A ls C hw hl
  have C : aX p m c cX6_undo 1 s args aTs RX6 meth (some .int) := C
  have hx := C.1.1
  have hb := C.1.2.1
  have hml := C.1.2.2.1
  have hown := C.1.2.2.2.1
  have hts := C.1.2.2.2.2
  have hl : lv_has ls 1 [(0, .ref (ad 0))] := hl
  unfold m_X6_undo at hM
  refine lv_aload_n hx hb dX6_undo_0 rfl (lv_at hl 0 rfl) ?_
  refine a_geti (σ := aG ι) (o := 0) (T := TX6) (N := 11) C wU_X6 hw rfl (by decide) rfl 5 (by decide) rfl wF_X6_35 dX6_undo_1 ?_
  refine lv_if_ne (tgt := 9) hx hb dX6_undo_4 (by decide) (fun hc => ?_) (fun hc => ?_)
  · replace hM := h_f hc hM
    refine lv_aload_n hx hb dX6_undo_9 rfl (lv_at hl 0 rfl) ?_
    refine lv_dup hx hb dX6_undo_10 rfl ?_
    refine a_geti (σ := aG ι) (o := 0) (T := TX6) (N := 11) C wU_X6 hw rfl (by decide) rfl 5 (by decide) rfl wF_X6_35 dX6_undo_11 ?_
    refine lv_iconst (v := (1 : Int32)) hx hb dX6_undo_14 (by decide) ?_
    refine lv_isub hx hb dX6_undo_15 ?_
    refine a_puti (ty := .int) (σ := aG ι) (o := 0) (T := TX6) (N := 11) (ty0 := tyX6) C wU_X6 tyX6_ok nmX6 hw rfl (by decide) rfl 5 (by decide) rfl wF_X6_35 rfl (by decide +kernel) rfl rfl dX6_undo_16 (fun H locs hw => ?_)
    have hw : aW D dA ad adV (aG (pI ι 0 5 ((gI ι 0 5) - (1 : Int32)))) A s H locs := hw
    refine lv_aload_n hx hb dX6_undo_19 rfl (lv_at hl 0 rfl) ?_
    refine a_getp (q := 2) (σ := aG (pI ι 0 5 ((gI ι 0 5) - (1 : Int32)))) (o := 0) (T := TX6) (N := 11) C wU_X6 hw rfl (by decide) rfl 2 (by decide) rfl wF_X6_20 (aG_P rfl rfl) dX6_undo_20 ?_
    refine lv_aload_n hx hb dX6_undo_23 rfl (lv_at hl 0 rfl) ?_
    refine a_getp (q := 29) (σ := aG (pI ι 0 5 ((gI ι 0 5) - (1 : Int32)))) (o := 0) (T := TX6) (N := 11) C wU_X6 hw rfl (by decide) rfl 4 (by decide) rfl wF_X6_31 (aG_P rfl rfl) dX6_undo_24 ?_
    refine lv_aload_n hx hb dX6_undo_27 rfl (lv_at hl 0 rfl) ?_
    refine a_geti (σ := aG (pI ι 0 5 ((gI ι 0 5) - (1 : Int32)))) (o := 0) (T := TX6) (N := 11) C wU_X6 hw rfl (by decide) rfl 5 (by decide) rfl wF_X6_35 dX6_undo_28 ?_
    obtain ⟨hi, hM⟩ := h_i hM
    obtain ⟨q31, hq31, hM⟩ := h_b hM
    obtain ⟨hl31, hM⟩ := h_g hM
    refine a_aald (σ := aG (pI ι 0 5 ((gI ι 0 5) - (1 : Int32)))) (o := 29) (q := q31) C hw rfl hi rfl (aG_Pm rfl hq31) dX6_undo_31 ?_
    obtain ⟨r32, hr32, hM⟩ := h_b hM
    refine a_callV (σ' := aG r32) (v := none) (As := fun ad => [.ref (ad q31)]) (rest := []) (o := 2) C hw (c_X2_copyFrom l (lin2) (hl31) hr32) k_X2_copyFrom wM_X6_106 ⟨⟨rfl, rfl⟩, ⟨Nat.le_of_ble_eq_true rfl, Nat.le_of_ble_eq_true rfl⟩⟩ (aLin_k lin2).1 (by decide) rfl rfl rfl hl rfl (Nat.le_of_ble_eq_true rfl) dX6_undo_32 ⟨Nat.zero_le _, Nat.zero_le _⟩ (fun H locs hw => ?_)
    refine lv_aload_n hx hb dX6_undo_35 rfl (lv_at hl 0 rfl) ?_
    refine a_geti (σ := aG r32) (o := 0) (T := TX6) (N := 11) C wU_X6 hw rfl (by decide) rfl 5 (by decide) rfl wF_X6_35 dX6_undo_36 ?_
    cases h_e hM
    exact a_iret C hw dX6_undo_39
  · replace hM := h_t hc hM
    refine lv_iconst (v := (-1 : Int32)) hx hb dX6_undo_7 (by decide) ?_
    cases h_e hM
    exact a_iret C hw dX6_undo_8
def rm_X6_print : Room := { frames := 0, cells := 0, slots := 0, locals := 0 }
set_option maxHeartbeats 4000000 in
set_option maxRecDepth 100000 in
theorem tl_X6_print_4 (l : Launch) {p : Program} {e : Env} {s : State} {m : MethodId} {args : Array Value} {below : List Frame} {meth : Method} {c : Code} {D : va_G} {dA : Nat → ClassId} {ad adV : Nat → Nat} {A : Nat → Prop} (C : aX p m c cX6_print 5 s args aTs RX6 meth (some .long)) {res : Int64 × iS} : ∀ (n : Nat) (y1 : Int64) (y3 : Int32) {ι : iS}, l_X6_print_4 n y1 y3 ι = some res → ∀ {H : Heap} {locs : List Loc} {ls : Array Slot}, aW D dA ad adV (aG ι) A s H locs → lv_has ls 5 [(0, .ref (ad 0)), (1, .long y1), (3, .int y3)] → W p l e rm_X6_print s m args below meth c H locs 0 0 (MQ below (aQ D dA ad (aG res.2) A (some (.long res.1))) args s 0 0 A) (F0 m 4 ls []) := by
  have hx := C.1.1
  have hb := C.1.2.1
  have hml := C.1.2.2.1
  have hown := C.1.2.2.2.1
  have hts := C.1.2.2.2.2
  intro n
  induction n with
  | zero => intro y1 y3 ι hM; simp [l_X6_print_4] at hM
  | succ n ih =>
    intro y1 y3 ι hM H locs ls hw hl
    rw [l_X6_print_4] at hM
    refine lv_iload_n hx hb dX6_print_4 rfl (lv_at hl 2 rfl) ?_
    refine lv_aload_n hx hb dX6_print_5 rfl (lv_at hl 0 rfl) ?_
    refine a_getp (q := 2) (σ := aG ι) (o := 0) (T := TX6) (N := 11) C wU_X6 hw rfl (by decide) rfl 2 (by decide) rfl wF_X6_20 (aG_P rfl rfl) dX6_print_6 ?_
    refine a_geti (σ := aG ι) (o := 2) (T := TX2) (N := 11) C wU_X2 hw (aLin_k lin2).1 (by decide) rfl 2 (by decide) rfl wF_X6_119 dX6_print_9 ?_
    refine lv_icmp_ge (tgt := 60) hx hb dX6_print_12 (by decide) (fun hc => ?_) (fun hc => ?_)
    · replace hM := h_t hc hM
      refine lv_ldc2 (v := (31 : Int64)) hx hb hown (hts _ wQ_X6_208) dX6_print_60 ?_
      refine lv_lload_n hx hb dX6_print_63 rfl (lv_at hl 1 rfl) ?_
      refine lv_lmul hx hb dX6_print_64 ?_
      refine lv_aload_n hx hb dX6_print_65 rfl (lv_at hl 0 rfl) ?_
      refine a_getp (q := 2) (σ := aG ι) (o := 0) (T := TX6) (N := 11) C wU_X6 hw rfl (by decide) rfl 2 (by decide) rfl wF_X6_20 (aG_P rfl rfl) dX6_print_66 ?_
      refine a_getp (q := 6) (σ := aG ι) (o := 2) (T := TX2) (N := 11) C wU_X2 hw (aLin_k lin2).1 (by decide) rfl 6 (by decide) rfl wF_X6_141 (aLin_p lin2 ι 3 (by decide)) dX6_print_69 ?_
      refine lv_iconst (v := (1 : Int32)) hx hb dX6_print_72 (by decide) ?_
      refine a_iald (σ := aG ι) (o := 6) C hw rfl (aIn_v (by decide)) (show (1 : Int32).toNatClampNeg = 1 by decide) dX6_print_73 ?_
      refine lv_i2l hx hb dX6_print_74 rfl ?_
      refine lv_ladd hx hb dX6_print_75 ?_
      cases h_e hM
      exact a_lret C hw dX6_print_76
    · replace hM := h_f hc hM
      refine lv_aload_n hx hb dX6_print_15 rfl (lv_at hl 0 rfl) ?_
      refine a_getp (q := 2) (σ := aG ι) (o := 0) (T := TX6) (N := 11) C wU_X6 hw rfl (by decide) rfl 2 (by decide) rfl wF_X6_20 (aG_P rfl rfl) dX6_print_16 ?_
      refine a_getp (q := 7) (σ := aG ι) (o := 2) (T := TX2) (N := 11) C wU_X2 hw (aLin_k lin2).1 (by decide) rfl 7 (by decide) rfl wF_X6_158 (aLin_p lin2 ι 4 (by decide)) dX6_print_19 ?_
      refine lv_iload_n hx hb dX6_print_22 rfl (lv_at hl 2 rfl) ?_
      obtain ⟨hi, hM⟩ := h_i hM
      refine a_iald (σ := aG ι) (o := 7) C hw rfl hi rfl dX6_print_23 ?_
      refine lv_istore (lv' := [(4, .int (gI ι 7 y3.toNatClampNeg)), (0, .ref (ad 0)), (1, .long y1), (3, .int y3)]) hx hb dX6_print_24 hl (by decide) rfl (fun ls hl => ?_)
      refine lv_ldc2 (v := (31 : Int64)) hx hb hown (hts _ wQ_X6_208) dX6_print_26 ?_
      refine lv_lload_n hx hb dX6_print_29 rfl (lv_at hl 2 rfl) ?_
      refine lv_lmul hx hb dX6_print_30 ?_
      refine lv_iload hx hb dX6_print_31 (lv_at hl 0 rfl) ?_
      refine lv_i2l hx hb dX6_print_33 rfl ?_
      refine lv_ladd hx hb dX6_print_34 ?_
      refine lv_lstore_n (lv' := [(1, .long (((31 : Int64) * y1) + ((gI ι 7 y3.toNatClampNeg)).toInt64)), (4, .int (gI ι 7 y3.toNatClampNeg)), (0, .ref (ad 0)), (3, .int y3)]) hx hb dX6_print_35 rfl hl (by decide) rfl (fun ls hl => ?_)
      refine lv_ldc2 (v := (31 : Int64)) hx hb hown (hts _ wQ_X6_208) dX6_print_36 ?_
      refine lv_lload_n hx hb dX6_print_39 rfl (lv_at hl 0 rfl) ?_
      refine lv_lmul hx hb dX6_print_40 ?_
      refine lv_aload_n hx hb dX6_print_41 rfl (lv_at hl 2 rfl) ?_
      refine a_getp (q := 2) (σ := aG ι) (o := 0) (T := TX6) (N := 11) C wU_X6 hw rfl (by decide) rfl 2 (by decide) rfl wF_X6_20 (aG_P rfl rfl) dX6_print_42 ?_
      refine a_getp (q := 8) (σ := aG ι) (o := 2) (T := TX2) (N := 11) C wU_X2 hw (aLin_k lin2).1 (by decide) rfl 8 (by decide) rfl wF_X6_144 (aLin_p lin2 ι 5 (by decide)) dX6_print_45 ?_
      refine lv_iload hx hb dX6_print_48 (lv_at hl 1 rfl) ?_
      obtain ⟨hi, hM⟩ := h_i hM
      refine a_iald (σ := aG ι) (o := 8) C hw rfl hi rfl dX6_print_50 ?_
      refine lv_i2l hx hb dX6_print_51 rfl ?_
      refine lv_ladd hx hb dX6_print_52 ?_
      refine lv_lstore_n (lv' := [(1, .long (((31 : Int64) * (((31 : Int64) * y1) + ((gI ι 7 y3.toNatClampNeg)).toInt64)) + ((gI ι 8 (gI ι 7 y3.toNatClampNeg).toNatClampNeg)).toInt64)), (4, .int (gI ι 7 y3.toNatClampNeg)), (0, .ref (ad 0)), (3, .int y3)]) hx hb dX6_print_53 rfl hl (by decide) rfl (fun ls hl => ?_)
      refine lv_iinc (v := (y3 + 1)) (lv' := [(3, .int (y3 + 1)), (1, .long (((31 : Int64) * (((31 : Int64) * y1) + ((gI ι 7 y3.toNatClampNeg)).toInt64)) + ((gI ι 8 (gI ι 7 y3.toNatClampNeg).toNatClampNeg)).toInt64)), (4, .int (gI ι 7 y3.toNatClampNeg)), (0, .ref (ad 0))]) hx hb dX6_print_54 hl (k := 3) rfl rfl (by decide) rfl (fun ls hl => ?_)
      refine lv_goto (tgt := 4) hx hb dX6_print_57 (by decide) ?_
      exact ih ((((31 : Int64) * (((31 : Int64) * y1) + ((gI ι 7 y3.toNatClampNeg)).toInt64)) + ((gI ι 8 (gI ι 7 y3.toNatClampNeg).toNatClampNeg)).toInt64)) ((y3 + 1)) hM hw (lv_sub hl [3, 1, 0] rfl)
theorem k_X6_print : aCal RX6 yX6_print cX6_print 5 (some .long) 0 := ⟨wI_yX6_print, wE_yX6_print, wZ_X6, wC_yX6_print, by decide +kernel⟩
set_option maxHeartbeats 4000000 in
set_option maxRecDepth 100000 in
theorem c_X6_print (l : Launch) {ι : iS} {res : Int64 × iS} (hM : m_X6_print ι = some res) : aM l yX6_print cX6_print 5 (some .long) rm_X6_print (fun ad => [.ref (ad 0)]) (aG ι) (some (.long res.1)) (aG res.2) := by
  refine aM.of (by decide) (fun _ => Nat.le_of_ble_eq_true rfl) ?_
  intro p e s m args below meth c D dA ad adV A ls C hw hl
  have C : aX p m c cX6_print 5 s args aTs RX6 meth (some .long) := C
  have hx := C.1.1
  have hb := C.1.2.1
  have hml := C.1.2.2.1
  have hown := C.1.2.2.2.1
  have hts := C.1.2.2.2.2
  have hl : lv_has ls 5 [(0, .ref (ad 0))] := hl
  unfold m_X6_print at hM
  refine lv_lconst (v := (0 : Int64)) hx hb dX6_print_0 (by decide) ?_
  refine lv_lstore_n (lv' := [(1, .long (0 : Int64)), (0, .ref (ad 0))]) hx hb dX6_print_1 rfl hl (by decide) rfl (fun ls hl => ?_)
  refine lv_iconst (v := (0 : Int32)) hx hb dX6_print_2 (by decide) ?_
  refine lv_istore_n (lv' := [(3, .int (0 : Int32)), (1, .long (0 : Int64)), (0, .ref (ad 0))]) hx hb dX6_print_3 rfl hl (by decide) rfl (fun ls hl => ?_)
  exact tl_X6_print_4 l C aF ((0 : Int64)) ((0 : Int32)) hM hw (lv_sub hl [2, 1, 0] rfl)
def rm_X6_status : Room := { frames := 0, cells := 0, slots := 0, locals := 0 }
theorem k_X6_status : aCal RX6 yX6_status cX6_status 2 (some .int) 1 := ⟨wI_yX6_status, wE_yX6_status, wZ_X6, wC_yX6_status, by decide +kernel⟩
set_option maxHeartbeats 4000000 in
set_option maxRecDepth 100000 in
theorem c_X6_status (l : Launch) {x1 : Int32} {ι : iS} {res : Int32 × iS} (hM : m_X6_status x1 ι = some res) : aM l yX6_status cX6_status 2 (some .int) rm_X6_status (fun ad => [.ref (ad 0), .int x1]) (aG ι) (some (.int res.1)) (aG res.2) := by
  refine aM.of (by decide) (fun _ => Nat.le_of_ble_eq_true rfl) ?_
  intro p e s m args below meth c D dA ad adV A ls C hw hl
  have C : aX p m c cX6_status 2 s args aTs RX6 meth (some .int) := C
  have hx := C.1.1
  have hb := C.1.2.1
  have hml := C.1.2.2.1
  have hown := C.1.2.2.2.1
  have hts := C.1.2.2.2.2
  have hl : lv_has ls 2 [(0, .ref (ad 0)), (1, .int x1)] := hl
  unfold m_X6_status at hM
  refine lv_iload_n hx hb dX6_status_0 rfl (lv_at hl 1 rfl) ?_
  refine lv_if_lt (tgt := 18) hx hb dX6_status_1 (by decide) (fun hc => ?_) (fun hc => ?_)
  · replace hM := h_t hc hM
    refine lv_iconst (v := (-1 : Int32)) hx hb dX6_status_18 (by decide) ?_
    cases h_e hM
    exact a_iret C hw dX6_status_19
  · replace hM := h_f hc hM
    refine lv_iload_n hx hb dX6_status_4 rfl (lv_at hl 1 rfl) ?_
    refine lv_iconst (v := (3 : Int32)) hx hb dX6_status_5 (by decide) ?_
    refine lv_icmp_ge (tgt := 18) hx hb dX6_status_6 (by decide) (fun hc => ?_) (fun hc => ?_)
    · replace hM := h_t hc hM
      refine lv_iconst (v := (-1 : Int32)) hx hb dX6_status_18 (by decide) ?_
      cases h_e hM
      exact a_iret C hw dX6_status_19
    · replace hM := h_f hc hM
      refine lv_aload_n hx hb dX6_status_9 rfl (lv_at hl 0 rfl) ?_
      refine a_getp (q := 30) (σ := aG ι) (o := 0) (T := TX6) (N := 11) C wU_X6 hw rfl (by decide) rfl 7 (by decide) rfl wF_X6_41 (aG_P rfl rfl) dX6_status_10 ?_
      refine lv_iload_n hx hb dX6_status_13 rfl (lv_at hl 1 rfl) ?_
      obtain ⟨hi, hM⟩ := h_i hM
      refine a_iald (σ := aG ι) (o := 30) C hw rfl hi rfl dX6_status_14 ?_
      refine lv_goto (tgt := 19) hx hb dX6_status_15 (by decide) ?_
      cases h_e hM
      exact a_iret C hw dX6_status_19
