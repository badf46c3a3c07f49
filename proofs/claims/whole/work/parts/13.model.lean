def m_X7_thrown (ι : iS) : Option (Int32 × iS) := some ((gI ι 109 0), ι)
def m_X7_bad (x1 : Int32) (x2 : Int32) (x3 : Int32) (ι : iS) : Option (Int32 × iS) := if x1 = 0 then if (gI ι 109 0) = 0 then some ((0 : Int32), ι) else some ((1 : Int32), ι) else if (gI ι 109 0) = 0 then if aIn x3 3 = true then if aIn x3 3 = true then if (gI (pI (pI ι 109 0 x2) 110 x3.toNatClampNeg ((gI (pI ι 109 0 x2) 110 x3.toNatClampNeg) + (1 : Int32))) 109 0) = 0 then some ((0 : Int32), (pI (pI ι 109 0 x2) 110 x3.toNatClampNeg ((gI (pI ι 109 0 x2) 110 x3.toNatClampNeg) + (1 : Int32)))) else some ((1 : Int32), (pI (pI ι 109 0 x2) 110 x3.toNatClampNeg ((gI (pI ι 109 0 x2) 110 x3.toNatClampNeg) + (1 : Int32)))) else none else none else if (gI ι 109 0) = 0 then some ((0 : Int32), ι) else some ((1 : Int32), ι)
def m_X7_in (x1 : Int32) (x2 : Int32) (x3 : Int32) (ι : iS) : Option (Int32 × iS) := if x1 < x2 then some ((0 : Int32), ι) else if x3 < x1 then some ((0 : Int32), ι) else some ((1 : Int32), ι)
def m_X7_less (x1 : Int32) (x2 : Int32) (ι : iS) : Option (Int32 × iS) := if x2 ≤ x1 then some (x2, ι) else some (x1, ι)
def m_X7_more (x1 : Int32) (x2 : Int32) (ι : iS) : Option (Int32 × iS) := if x1 ≤ x2 then some (x2, ι) else some (x1, ι)
def l_X7_begins_41 (x1 : Nat) : Nat → Int32 → iS → Option (iS)
  | 0, _, _ => none
  | n + 1, y1, ι => if (5 : Int32) ≤ y1 then some ι else if aIn ((89 : Int32) + y1) 883 = true then l_X7_begins_41 x1 n (y1 + 1) (pI ι x1 ((89 : Int32) + y1).toNatClampNeg (-1 : Int32)) else none
def l_X7_begins_2 (x1 : Nat) : Nat → Int32 → iS → Option (iS)
  | 0, _, _ => none
  | n + 1, y1, ι => if (883 : Int32) ≤ y1 then l_X7_begins_41 x1 aF (0 : Int32) (pI (pI (pI (pI ι x1 4 (2 : Int32)) x1 5 (30 : Int32)) x1 6 (5 : Int32)) x1 7 (50 : Int32)) else if aIn y1 883 = true then l_X7_begins_2 x1 n (y1 + 1) (pI ι x1 y1.toNatClampNeg (0 : Int32)) else none
def m_X7_begins (x1 : Nat) (ι : iS) : Option (iS) := l_X7_begins_2 x1 aF (0 : Int32) ι
def l_X7_feed_23 : Nat → Int32 → Int32 → Int32 → Int32 → Int32 → Int32 → iS → Option (Int32 × iS)
  | 0, _, _, _, _, _, _, _ => none
  | n + 1, y1, y2, y3, y4, y5, y6, ι => if (20 : Int32) ≤ y6 then some ((gI ι 109 2), ι) else if (4 : Int32) ≤ y6 then if (8 : Int32) ≤ y6 then if (12 : Int32) ≤ y6 then if (16 : Int32) ≤ y6 then if aIn (gI ι 109 2) 500 = true then l_X7_feed_23 n y1 y2 y3 y4 y5 (y6 + 1) (pI (pI ι 111 (gI ι 109 2).toNatClampNeg ((y5 >>> (((24 : Int32) - ((8 : Int32) * (y6 - y6 / (4 : Int32) * (4 : Int32)))) &&& 31)) &&& (255 : Int32))) 109 2 ((gI (pI ι 111 (gI ι 109 2).toNatClampNeg ((y5 >>> (((24 : Int32) - ((8 : Int32) * (y6 - y6 / (4 : Int32) * (4 : Int32)))) &&& 31)) &&& (255 : Int32))) 109 2) + (1 : Int32))) else none else if aIn (gI ι 109 2) 500 = true then l_X7_feed_23 n y1 y2 y3 y4 y5 (y6 + 1) (pI (pI ι 111 (gI ι 109 2).toNatClampNeg ((y4 >>> (((24 : Int32) - ((8 : Int32) * (y6 - y6 / (4 : Int32) * (4 : Int32)))) &&& 31)) &&& (255 : Int32))) 109 2 ((gI (pI ι 111 (gI ι 109 2).toNatClampNeg ((y4 >>> (((24 : Int32) - ((8 : Int32) * (y6 - y6 / (4 : Int32) * (4 : Int32)))) &&& 31)) &&& (255 : Int32))) 109 2) + (1 : Int32))) else none else if aIn (gI ι 109 2) 500 = true then l_X7_feed_23 n y1 y2 y3 y4 y5 (y6 + 1) (pI (pI ι 111 (gI ι 109 2).toNatClampNeg ((y3 >>> (((24 : Int32) - ((8 : Int32) * (y6 - y6 / (4 : Int32) * (4 : Int32)))) &&& 31)) &&& (255 : Int32))) 109 2 ((gI (pI ι 111 (gI ι 109 2).toNatClampNeg ((y3 >>> (((24 : Int32) - ((8 : Int32) * (y6 - y6 / (4 : Int32) * (4 : Int32)))) &&& 31)) &&& (255 : Int32))) 109 2) + (1 : Int32))) else none else if aIn (gI ι 109 2) 500 = true then l_X7_feed_23 n y1 y2 y3 y4 y5 (y6 + 1) (pI (pI ι 111 (gI ι 109 2).toNatClampNeg ((y2 >>> (((24 : Int32) - ((8 : Int32) * (y6 - y6 / (4 : Int32) * (4 : Int32)))) &&& 31)) &&& (255 : Int32))) 109 2 ((gI (pI ι 111 (gI ι 109 2).toNatClampNeg ((y2 >>> (((24 : Int32) - ((8 : Int32) * (y6 - y6 / (4 : Int32) * (4 : Int32)))) &&& 31)) &&& (255 : Int32))) 109 2) + (1 : Int32))) else none else if aIn (gI ι 109 2) 500 = true then l_X7_feed_23 n y1 y2 y3 y4 y5 (y6 + 1) (pI (pI ι 111 (gI ι 109 2).toNatClampNeg ((y1 >>> (((24 : Int32) - ((8 : Int32) * (y6 - y6 / (4 : Int32) * (4 : Int32)))) &&& 31)) &&& (255 : Int32))) 109 2 ((gI (pI ι 111 (gI ι 109 2).toNatClampNeg ((y1 >>> (((24 : Int32) - ((8 : Int32) * (y6 - y6 / (4 : Int32) * (4 : Int32)))) &&& 31)) &&& (255 : Int32))) 109 2) + (1 : Int32))) else none
def m_X7_feed (x1 : Int32) (x2 : Int32) (x3 : Int32) (x4 : Int32) (x5 : Int32) (ι : iS) : Option (Int32 × iS) := if ((gI (pI ι 109 0 (0 : Int32)) 109 2) + (20 : Int32)) ≤ (500 : Int32) then l_X7_feed_23 aF x1 x2 x3 x4 x5 (0 : Int32) (pI ι 109 0 (0 : Int32)) else some ((-1 : Int32), (pI ι 109 0 (0 : Int32)))
def l_X7_copies_2 (x1 : Nat) (x2 : Nat) : Nat → Int32 → iS → Option (iS)
  | 0, _, _ => none
  | n + 1, y2, ι => if (883 : Int32) ≤ y2 then some ι else if aIn y2 883 = true then if aIn y2 883 = true then l_X7_copies_2 x1 x2 n (y2 + 1) (pI ι x2 y2.toNatClampNeg (gI ι x1 y2.toNatClampNeg)) else none else none
def m_X7_copies (x1 : Nat) (x2 : Nat) (ι : iS) : Option (iS) := l_X7_copies_2 x1 x2 aF (0 : Int32) ι
def m_X7_byteAt (x1 : Int32) (ι : iS) : Option (Int32 × iS) := if x1 < (gI ι 109 3) then if aIn x1 500 = true then some ((gI ι 111 x1.toNatClampNeg), ι) else none else some ((-1 : Int32), ι)
def l_X7_here_0 : Nat → iS → Option (Int32 × iS)
  | 0, _ => none
  | n + 1, ι => Option.bind (m_X7_byteAt (gI ι 109 4) ι) fun r5 => if r5.1 = (32 : Int32) then l_X7_here_0 n (pI r5.2 109 4 ((gI r5.2 109 4) + (1 : Int32))) else Option.bind (m_X7_byteAt (gI r5.2 109 4) r5.2) fun r31 => some (r31.1, r31.2)
def m_X7_here (ι : iS) : Option (Int32 × iS) := l_X7_here_0 aF ι
def m_X7_fine (ι : iS) : Option (Int32 × iS) := if (gI ι 109 6) = 0 then some ((1 : Int32), ι) else some ((0 : Int32), ι)
def m_X7_wrong (x1 : Int32) (x2 : Int32) (ι : iS) : Option (iS) := if (gI ι 109 6) = 0 then some (pI (pI ι 109 6 x1) 109 7 x2) else some ι
def m_X7_isDigit (x1 : Int32) (ι : iS) : Option (Int32 × iS) := if x1 < (48 : Int32) then some ((0 : Int32), ι) else if (57 : Int32) < x1 then some ((0 : Int32), ι) else some ((1 : Int32), ι)
def m_X7_must (x1 : Int32) (ι : iS) : Option (iS) := Option.bind (m_X7_fine ι) fun r1 => if r1.1 = 0 then some r1.2 else Option.bind (m_X7_here r1.2) fun r9 => if r9.1 = x1 then some (pI r9.2 109 4 ((gI r9.2 109 4) + (1 : Int32))) else Option.bind (m_X7_wrong (1 : Int32) (gI r9.2 109 4) r9.2) fun r35 => some r35
def l_X7_number_38 : Nat → Int32 → Int32 → Int32 → Int32 → iS → Option (Int32 × iS)
  | 0, _, _, _, _, _ => none
  | n + 1, y1, y2, y3, y4, ι => Option.bind (m_X7_byteAt (gI ι 109 4) ι) fun r43 => Option.bind (m_X7_isDigit r43.1 r43.2) fun r46 => if r46.1 = 0 then Option.bind (m_X7_in y4 y1 y2 r46.2) fun r93 => if r93.1 = 0 then Option.bind (m_X7_wrong (2 : Int32) y3 r93.2) fun r102 => some (y4, r102) else some (y4, r93.2) else Option.bind (m_X7_byteAt (gI r46.2 109 4) r46.2) fun r64 => Option.bind (m_X7_less (100000 : Int32) ((((10 : Int32) * y4) + r64.1) - (48 : Int32)) r64.2) fun r71 => l_X7_number_38 n y1 y2 y3 r71.1 (pI r71.2 109 4 ((gI r71.2 109 4) + (1 : Int32)))
def m_X7_number (x1 : Int32) (x2 : Int32) (ι : iS) : Option (Int32 × iS) := Option.bind (m_X7_fine ι) fun r1 => if r1.1 = 0 then some ((0 : Int32), r1.2) else Option.bind (m_X7_here r1.2) fun r10 => Option.bind (m_X7_isDigit r10.1 r10.2) fun r13 => if r13.1 = 0 then Option.bind (m_X7_wrong (1 : Int32) (gI r13.2 109 4) r13.2) fun r25 => some ((0 : Int32), r25) else l_X7_number_38 aF x1 x2 (gI r13.2 109 4) (0 : Int32) r13.2
def m_X7_traitTold (ι : iS) : Option (Int32 × iS) := Option.bind (m_X7_number (0 : Int32) ((gI ι 113 0) - (1 : Int32)) ι) fun r10 => some (r10.1, r10.2)
def l_X7_values_2 : Nat → Int32 → Int32 → iS → Option (iS)
  | 0, _, _, _ => none
  | n + 1, y1, y2, ι => if (gI ι 113 0) ≤ y2 then some ι else Option.bind (m_X7_fine ι) fun r13 => if r13.1 = 0 then some r13.2 else Option.bind (m_X7_number (0 : Int32) (9 : Int32) r13.2) fun r35 => if aIn (((9 : Int32) + ((5 : Int32) * y1)) + y2) 883 = true then l_X7_values_2 n y1 (y2 + 1) (pI r35.2 113 (((9 : Int32) + ((5 : Int32) * y1)) + y2).toNatClampNeg r35.1) else none
def m_X7_values (x1 : Int32) (ι : iS) : Option (iS) := l_X7_values_2 aF x1 (0 : Int32) ι
def m_X7_tells (x1 : Int32) (ι : iS) : Option (iS) := Option.bind (m_X7_fine ι) fun r1 => if r1.1 = 0 then some r1.2 else if aIn ((123 : Int32) + (gI r1.2 109 13)) 883 = true then some (pI (pI r1.2 113 ((123 : Int32) + (gI r1.2 109 13)).toNatClampNeg x1) 109 13 ((gI (pI r1.2 113 ((123 : Int32) + (gI r1.2 109 13)).toNatClampNeg x1) 109 13) + (1 : Int32))) else none
def m_X7_opens (ι : iS) : Option (iS) := if (gI ι 109 14) = (4 : Int32) then Option.bind (m_X7_wrong (4 : Int32) (gI ι 109 4) ι) fun r14 => some (pI (pI r14 109 4 ((gI r14 109 4) + (1 : Int32))) 109 14 ((gI (pI r14 109 4 ((gI r14 109 4) + (1 : Int32))) 109 14) + (1 : Int32))) else some (pI (pI ι 109 4 ((gI ι 109 4) + (1 : Int32))) 109 14 ((gI (pI ι 109 4 ((gI ι 109 4) + (1 : Int32))) 109 14) + (1 : Int32)))
def m_X7_fault (ι : iS) : Option (Int32 × iS) := some ((gI (pI ι 109 0 (0 : Int32)) 109 5), (pI ι 109 0 (0 : Int32)))
def m_X7_persons (ι : iS) : Option (Int32 × iS) := some (((1 : Int32) + (gI ι 112 1)), ι)
def m_X7_valueOf (x1 : Int32) (x2 : Int32) (ι : iS) : Option (Int32 × iS) := if aIn (((9 : Int32) + ((5 : Int32) * x1)) + x2) 883 = true then some ((gI ι 112 (((9 : Int32) + ((5 : Int32) * x1)) + x2).toNatClampNeg), ι) else none
def m_X7_offOf (x1 : Int32) (x2 : Int32) (x3 : Int32) (ι : iS) : Option (Int32 × iS) := if aIn ((89 : Int32) + x2) 883 = true then if (gI ι 112 ((89 : Int32) + x2).toNatClampNeg) = (-1 : Int32) then some ((0 : Int32), ι) else Option.bind (m_X7_valueOf x1 x2 ι) fun r18 => if x3 = 0 then if aIn ((89 : Int32) + x2) 883 = true then if 0 ≤ (r18.1 - (gI r18.2 112 ((89 : Int32) + x2).toNatClampNeg)) then some ((r18.1 - (gI r18.2 112 ((89 : Int32) + x2).toNatClampNeg)), r18.2) else some ((-(r18.1 - (gI r18.2 112 ((89 : Int32) + x2).toNatClampNeg))), r18.2) else none else Option.bind (m_X7_valueOf (0 : Int32) x2 r18.2) fun r28 => if 0 ≤ (r18.1 - r28.1) then some ((r18.1 - r28.1), r28.2) else some ((-(r18.1 - r28.1)), r28.2) else none
def m_X7_held (x1 : Int64) (ι : iS) : Option (Int64 × iS) := if (lg_cmp x1 (1000000 : Int64)) ≤ 0 then if 0 ≤ (lg_cmp x1 (-1000000 : Int64)) then some (x1, ι) else some ((-1000000 : Int64), ι) else some ((1000000 : Int64), ι)
def l_X7_formed_6 : Nat → Int32 → Int32 → Int32 → Int32 → iS → Option (Int64 × iS)
  | 0, _, _, _, _, _ => none
  | n + 1, y1, y2, y3, y4, ι => if aIn y4 883 = true then if (gI ι 112 y4.toNatClampNeg) = 0 then some ((gJ ι 123 0), ι) else if aIn y4 883 = true then if (5 : Int32) ≤ (gI ι 112 y4.toNatClampNeg) then if (gI ι 112 y4.toNatClampNeg) = (8 : Int32) then if aIn (y3 - (1 : Int32)) 760 = true then if aIn (y3 - (1 : Int32)) 760 = true then l_X7_formed_6 n y1 y2 y3 (y4 + 1) (pJ ι 123 (y3 - (1 : Int32)).toNatClampNeg (-(gJ ι 123 (y3 - (1 : Int32)).toNatClampNeg))) else none else none else if aIn ((y3 + (-1)) - (1 : Int32)) 760 = true then if aIn (y3 + (-1)) 760 = true then if (gI ι 112 y4.toNatClampNeg) = (5 : Int32) then Option.bind (m_X7_held ((gJ ι 123 ((y3 + (-1)) - (1 : Int32)).toNatClampNeg) + (gJ ι 123 (y3 + (-1)).toNatClampNeg)) ι) fun r202 => if aIn ((y3 + (-1)) - (1 : Int32)) 760 = true then l_X7_formed_6 n y1 y2 (y3 + (-1)) (y4 + 1) (pJ r202.2 123 ((y3 + (-1)) - (1 : Int32)).toNatClampNeg r202.1) else none else if (gI ι 112 y4.toNatClampNeg) = (6 : Int32) then Option.bind (m_X7_held ((gJ ι 123 ((y3 + (-1)) - (1 : Int32)).toNatClampNeg) - (gJ ι 123 (y3 + (-1)).toNatClampNeg)) ι) fun r202 => if aIn ((y3 + (-1)) - (1 : Int32)) 760 = true then l_X7_formed_6 n y1 y2 (y3 + (-1)) (y4 + 1) (pJ r202.2 123 ((y3 + (-1)) - (1 : Int32)).toNatClampNeg r202.1) else none else Option.bind (m_X7_held ((gJ ι 123 ((y3 + (-1)) - (1 : Int32)).toNatClampNeg) * (gJ ι 123 (y3 + (-1)).toNatClampNeg)) ι) fun r202 => if aIn ((y3 + (-1)) - (1 : Int32)) 760 = true then l_X7_formed_6 n y1 y2 (y3 + (-1)) (y4 + 1) (pJ r202.2 123 ((y3 + (-1)) - (1 : Int32)).toNatClampNeg r202.1) else none else none else none else if aIn (y4 + 1) 883 = true then if (gI ι 112 y4.toNatClampNeg) = (1 : Int32) then if aIn y3 760 = true then l_X7_formed_6 n y1 y2 (y3 + 1) ((y4 + 1) + 1) (pJ ι 123 y3.toNatClampNeg ((gI ι 112 (y4 + 1).toNatClampNeg)).toInt64) else none else if (gI ι 112 y4.toNatClampNeg) = (2 : Int32) then Option.bind (m_X7_valueOf y1 (gI ι 112 (y4 + 1).toNatClampNeg) ι) fun r70 => if aIn y3 760 = true then l_X7_formed_6 n y1 y2 (y3 + 1) ((y4 + 1) + 1) (pJ r70.2 123 y3.toNatClampNeg (r70.1).toInt64) else none else if (gI ι 112 y4.toNatClampNeg) = (3 : Int32) then Option.bind (m_X7_offOf y1 (gI ι 112 (y4 + 1).toNatClampNeg) y2 ι) fun r88 => if aIn y3 760 = true then l_X7_formed_6 n y1 y2 (y3 + 1) ((y4 + 1) + 1) (pJ r88.2 123 y3.toNatClampNeg (r88.1).toInt64) else none else if aIn ((94 : Int32) + (gI ι 112 (y4 + 1).toNatClampNeg)) 883 = true then if aIn y3 760 = true then l_X7_formed_6 n y1 y2 (y3 + 1) ((y4 + 1) + 1) (pJ ι 123 y3.toNatClampNeg ((gI ι 112 ((94 : Int32) + (gI ι 112 (y4 + 1).toNatClampNeg)).toNatClampNeg)).toInt64) else none else none else none else none else none
def m_X7_formed (x1 : Int32) (x2 : Int32) (ι : iS) : Option (Int64 × iS) := l_X7_formed_6 aF x1 x2 (0 : Int32) (123 : Int32) ι
def l_X7_matchOf_5 : Nat → Int32 → Int32 → Int64 → Int32 → iS → Option (Int32 × iS)
  | 0, _, _, _, _, _ => none
  | n + 1, y1, y2, y3, y5, ι => if (gI ι 112 0) ≤ y5 then if (gI ι 112 8) = (1 : Int32) then Option.bind (m_X7_formed y1 y2 ι) fun r62 => if 0 ≤ (lg_cmp r62.1 (0 : Int64)) then if (lg_cmp r62.1 (99 : Int64)) ≤ 0 then some ((r62.1).toInt32, r62.2) else some ((99 : Int32), r62.2) else some ((0 : Int32), r62.2) else if 0 ≤ (lg_cmp y3 (0 : Int64)) then if (lg_cmp y3 (99 : Int64)) ≤ 0 then some ((y3).toInt32, ι) else some ((99 : Int32), ι) else some ((0 : Int32), ι) else if aIn ((94 : Int32) + y5) 883 = true then Option.bind (m_X7_offOf y1 y5 y2 ι) fun r34 => l_X7_matchOf_5 n y1 y2 (y3 + (((gI ι 112 ((94 : Int32) + y5).toNatClampNeg) * ((9 : Int32) - r34.1))).toInt64) (y5 + 1) r34.2 else none
def m_X7_matchOf (x1 : Int32) (x2 : Int32) (ι : iS) : Option (Int32 × iS) := l_X7_matchOf_5 aF x1 x2 (0 : Int64) (0 : Int32) ι
def l_X7_remembers_11 : Nat → Int32 → iS → Option (iS)
  | 0, _, _ => none
  | n + 1, y1, ι => if (8 : Int32) ≤ y1 then if aIn (gI (pI ι 109 12 ((gI ι 109 12) - (1 : Int32))) 109 12) 8 = true then Option.bind (m_X7_copies 112 (115 + (gI (pI ι 109 12 ((gI ι 109 12) - (1 : Int32))) 109 12).toNatClampNeg) (pI ι 109 12 ((gI ι 109 12) - (1 : Int32)))) fun r63 => some (pI r63 109 12 ((gI r63 109 12) + (1 : Int32))) else none else if aIn y1 8 = true then if aIn (y1 - (1 : Int32)) 8 = true then Option.bind (m_X7_copies (115 + y1.toNatClampNeg) (115 + (y1 - (1 : Int32)).toNatClampNeg) ι) fun r31 => l_X7_remembers_11 n (y1 + 1) r31 else none else none
def m_X7_remembers (ι : iS) : Option (iS) := if (gI ι 109 12) = (8 : Int32) then l_X7_remembers_11 aF (1 : Int32) ι else if aIn (gI ι 109 12) 8 = true then Option.bind (m_X7_copies 112 (115 + (gI ι 109 12).toNatClampNeg) ι) fun r63 => some (pI r63 109 12 ((gI r63 109 12) + (1 : Int32))) else none
def m_X7_undo (ι : iS) : Option (Int32 × iS) := if (gI (pI ι 109 0 (0 : Int32)) 109 12) = 0 then some ((-1 : Int32), (pI ι 109 0 (0 : Int32))) else if aIn (gI (pI (pI ι 109 0 (0 : Int32)) 109 12 ((gI (pI ι 109 0 (0 : Int32)) 109 12) - (1 : Int32))) 109 12) 8 = true then Option.bind (m_X7_copies (115 + (gI (pI (pI ι 109 0 (0 : Int32)) 109 12 ((gI (pI ι 109 0 (0 : Int32)) 109 12) - (1 : Int32))) 109 12).toNatClampNeg) 112 (pI (pI ι 109 0 (0 : Int32)) 109 12 ((gI (pI ι 109 0 (0 : Int32)) 109 12) - (1 : Int32)))) fun r37 => some ((gI r37 109 12), r37) else none
def m_X7_isPerson (x1 : Int32) (ι : iS) : Option (Int32 × iS) := Option.bind (m_X7_in x1 (0 : Int32) (gI ι 112 1) ι) fun r8 => if r8.1 = 0 ∨ r8.1 = 1 then some (r8.1, r8.2) else none
def m_X7_isTrait (x1 : Int32) (ι : iS) : Option (Int32 × iS) := Option.bind (m_X7_in x1 (0 : Int32) ((gI ι 112 0) - (1 : Int32)) ι) fun r10 => if r10.1 = 0 ∨ r10.1 = 1 then some (r10.1, r10.2) else none
def l_X7_placeOf_2 : Nat → Int32 → Int32 → iS → Option (Int32 × iS)
  | 0, _, _, _ => none
  | n + 1, y1, y2, ι => if (gI ι 112 3) ≤ y2 then some ((-1 : Int32), ι) else if aIn ((99 : Int32) + y2) 883 = true then if (gI ι 112 ((99 : Int32) + y2).toNatClampNeg) = y1 then some (y2, ι) else l_X7_placeOf_2 n y1 (y2 + 1) ι else none
def m_X7_placeOf (x1 : Int32) (ι : iS) : Option (Int32 × iS) := l_X7_placeOf_2 aF x1 (0 : Int32) ι
def rm_X7_thrown : Room := { frames := 0, cells := 0, slots := 0, locals := 0 }
theorem k_X7_thrown : aCal RX7 yX7_thrown cX7_thrown 1 (some .int) 0 := ⟨wI_yX7_thrown, wE_yX7_thrown, wZ_X7, wC_yX7_thrown, by decide +kernel⟩
set_option maxHeartbeats 4000000 in
set_option maxRecDepth 100000 in
theorem c_X7_thrown (l : Launch) {ι : iS} {res : Int32 × iS} (hM : m_X7_thrown ι = some res) : aM l yX7_thrown cX7_thrown 1 (some .int) rm_X7_thrown (fun ad => [.ref (ad 109)]) (aG ι) (some (.int res.1)) (aG res.2) := by
  refine aM.of (by decide) (fun _ => Nat.le_of_ble_eq_true rfl) ?_
  intro p e s m args below meth c D dA ad adV A ls C hw hl
  have C : aX p m c cX7_thrown 1 s args aTs RX7 meth (some .int) := C
  have hx := C.1.1
  have hb := C.1.2.1
  have hml := C.1.2.2.1
  have hown := C.1.2.2.2.1
  have hts := C.1.2.2.2.2
  have hl : lv_has ls 1 [(0, .ref (ad 109))] := hl
  unfold m_X7_thrown at hM
  refine lv_aload_n hx hb dX7_thrown_0 rfl (lv_at hl 0 rfl) ?_
  refine a_geti (σ := aG ι) (o := 109) (T := TX7) (N := 20) C wU_X7 hw rfl (by decide) rfl 0 (by decide) rfl wF_X7_42 dX7_thrown_1 ?_
  cases h_e hM
  exact a_iret C hw dX7_thrown_4
def rm_X7_bad : Room := { frames := 0, cells := 0, slots := 0, locals := 0 }
theorem k_X7_bad : aCal RX7 yX7_bad cX7_bad 4 (some .boolean) 3 := ⟨wI_yX7_bad, wE_yX7_bad, wZ_X7, wC_yX7_bad, by decide +kernel⟩
set_option maxHeartbeats 4000000 in
set_option maxRecDepth 100000 in
theorem c_X7_bad (l : Launch) {x1 : Int32} {x2 : Int32} {x3 : Int32} {ι : iS} {res : Int32 × iS} (hM : m_X7_bad x1 x2 x3 ι = some res) : aM l yX7_bad cX7_bad 4 (some .boolean) rm_X7_bad (fun ad => [.ref (ad 109), .int x1, .int x2, .int x3]) (aG ι) (some (.int res.1)) (aG res.2) := by
  refine aM.of (by decide) (fun _ => Nat.le_of_ble_eq_true rfl) ?_
  intro p e s m args below meth c D dA ad adV A ls C hw hl
  have C : aX p m c cX7_bad 4 s args aTs RX7 meth (some .boolean) := C
  have hx := C.1.1
  have hb := C.1.2.1
  have hml := C.1.2.2.1
  have hown := C.1.2.2.2.1
  have hts := C.1.2.2.2.2
  have hl : lv_has ls 4 [(0, .ref (ad 109)), (1, .int x1), (2, .int x2), (3, .int x3)] := hl
  unfold m_X7_bad at hM
  refine lv_iload_n hx hb dX7_bad_0 rfl (lv_at hl 1 rfl) ?_
  refine lv_if_eq (tgt := 26) hx hb dX7_bad_1 (by decide) (fun hc => ?_) (fun hc => ?_)
  · replace hM := h_t hc hM
    refine lv_aload_n hx hb dX7_bad_26 rfl (lv_at hl 0 rfl) ?_
    refine a_geti (σ := aG ι) (o := 109) (T := TX7) (N := 20) C wU_X7 hw rfl (by decide) rfl 0 (by decide) rfl wF_X7_42 dX7_bad_27 ?_
    refine lv_if_eq (tgt := 37) hx hb dX7_bad_30 (by decide) (fun hc => ?_) (fun hc => ?_)
    · replace hM := h_t hc hM
      refine lv_iconst (v := (0 : Int32)) hx hb dX7_bad_37 (by decide) ?_
      cases h_e hM
      exact a_zret C (zn (v := 0) (Or.inl rfl)) hw dX7_bad_38
    · replace hM := h_f hc hM
      refine lv_iconst (v := (1 : Int32)) hx hb dX7_bad_33 (by decide) ?_
      refine lv_goto (tgt := 38) hx hb dX7_bad_34 (by decide) ?_
      cases h_e hM
      exact a_zret C (zn (v := 1) (Or.inr rfl)) hw dX7_bad_38
  · replace hM := h_f hc hM
    refine lv_aload_n hx hb dX7_bad_4 rfl (lv_at hl 0 rfl) ?_
    refine a_geti (σ := aG ι) (o := 109) (T := TX7) (N := 20) C wU_X7 hw rfl (by decide) rfl 0 (by decide) rfl wF_X7_42 dX7_bad_5 ?_
    refine lv_if_ne (tgt := 26) hx hb dX7_bad_8 (by decide) (fun hc => ?_) (fun hc => ?_)
    · replace hM := h_f hc hM
      refine lv_aload_n hx hb dX7_bad_26 rfl (lv_at hl 0 rfl) ?_
      refine a_geti (σ := aG ι) (o := 109) (T := TX7) (N := 20) C wU_X7 hw rfl (by decide) rfl 0 (by decide) rfl wF_X7_42 dX7_bad_27 ?_
      refine lv_if_eq (tgt := 37) hx hb dX7_bad_30 (by decide) (fun hc => ?_) (fun hc => ?_)
      · replace hM := h_t hc hM
        refine lv_iconst (v := (0 : Int32)) hx hb dX7_bad_37 (by decide) ?_
        cases h_e hM
        exact a_zret C (zn (v := 0) (Or.inl rfl)) hw dX7_bad_38
      · replace hM := h_f hc hM
        refine lv_iconst (v := (1 : Int32)) hx hb dX7_bad_33 (by decide) ?_
        refine lv_goto (tgt := 38) hx hb dX7_bad_34 (by decide) ?_
        cases h_e hM
        exact a_zret C (zn (v := 1) (Or.inr rfl)) hw dX7_bad_38
    · replace hM := h_t hc hM
      refine lv_aload_n hx hb dX7_bad_11 rfl (lv_at hl 0 rfl) ?_
      refine lv_iload_n hx hb dX7_bad_12 rfl (lv_at hl 2 rfl) ?_
      refine a_puti (ty := .int) (σ := aG ι) (o := 109) (T := TX7) (N := 20) (ty0 := tyX7) C wU_X7 tyX7_ok nmX7 hw rfl (by decide) rfl 0 (by decide) rfl wF_X7_42 rfl (by decide +kernel) rfl rfl dX7_bad_13 (fun H locs hw => ?_)
      have hw : aW D dA ad adV (aG (pI ι 109 0 x2)) A s H locs := hw
      refine lv_aload_n hx hb dX7_bad_16 rfl (lv_at hl 0 rfl) ?_
      refine a_getp (q := 110) (σ := aG (pI ι 109 0 x2)) (o := 109) (T := TX7) (N := 20) C wU_X7 hw rfl (by decide) rfl 1 (by decide) rfl wF_X7_9 (aG_P rfl rfl) dX7_bad_17 ?_
      refine lv_iload_n hx hb dX7_bad_20 rfl (lv_at hl 3 rfl) ?_
      refine lv_dup2_11 hx hb dX7_bad_21 rfl rfl ?_
      obtain ⟨hi, hM⟩ := h_i hM
      refine a_iald (σ := aG (pI ι 109 0 x2)) (o := 110) C hw rfl hi rfl dX7_bad_22 ?_
      refine lv_iconst (v := (1 : Int32)) hx hb dX7_bad_23 (by decide) ?_
      refine lv_iadd hx hb dX7_bad_24 ?_
      obtain ⟨hi, hM⟩ := h_i hM
      refine a_iast (σ := aG (pI ι 109 0 x2)) (o := 110) C hw rfl hi rfl dX7_bad_25 (fun H locs hw => ?_)
      have hw : aW D dA ad adV (aG (pI (pI ι 109 0 x2) 110 x3.toNatClampNeg ((gI (pI ι 109 0 x2) 110 x3.toNatClampNeg) + (1 : Int32)))) A s H locs := hw
      refine lv_aload_n hx hb dX7_bad_26 rfl (lv_at hl 0 rfl) ?_
      refine a_geti (σ := aG (pI (pI ι 109 0 x2) 110 x3.toNatClampNeg ((gI (pI ι 109 0 x2) 110 x3.toNatClampNeg) + (1 : Int32)))) (o := 109) (T := TX7) (N := 20) C wU_X7 hw rfl (by decide) rfl 0 (by decide) rfl wF_X7_42 dX7_bad_27 ?_
      refine lv_if_eq (tgt := 37) hx hb dX7_bad_30 (by decide) (fun hc => ?_) (fun hc => ?_)
      · replace hM := h_t hc hM
        refine lv_iconst (v := (0 : Int32)) hx hb dX7_bad_37 (by decide) ?_
        cases h_e hM
        exact a_zret C (zn (v := 0) (Or.inl rfl)) hw dX7_bad_38
      · replace hM := h_f hc hM
        refine lv_iconst (v := (1 : Int32)) hx hb dX7_bad_33 (by decide) ?_
        refine lv_goto (tgt := 38) hx hb dX7_bad_34 (by decide) ?_
        cases h_e hM
        exact a_zret C (zn (v := 1) (Or.inr rfl)) hw dX7_bad_38
def rm_X7_in : Room := { frames := 0, cells := 0, slots := 0, locals := 0 }
theorem k_X7_in : aCalS yX7_in cX7_in 3 (some .boolean) 3 := ⟨wS_yX7_in, wZ_X7, wC_yX7_in, by decide +kernel⟩
set_option maxHeartbeats 4000000 in
set_option maxRecDepth 100000 in
theorem c_X7_in (l : Launch) {x1 : Int32} {x2 : Int32} {x3 : Int32} {ι : iS} {res : Int32 × iS} (hM : m_X7_in x1 x2 x3 ι = some res) : aM l yX7_in cX7_in 3 (some .boolean) rm_X7_in (fun ad => [.int x1, .int x2, .int x3]) (aG ι) (some (.int res.1)) (aG res.2) := by
  refine aM.of (by decide) (fun _ => Nat.le_of_ble_eq_true rfl) ?_
  intro p e s m args below meth c D dA ad adV A ls C hw hl
  have C : aX p m c cX7_in 3 s args aTs RX7 meth (some .boolean) := C
  have hx := C.1.1
  have hb := C.1.2.1
  have hml := C.1.2.2.1
  have hown := C.1.2.2.2.1
  have hts := C.1.2.2.2.2
  have hl : lv_has ls 3 [(0, .int x1), (1, .int x2), (2, .int x3)] := hl
  unfold m_X7_in at hM
  refine lv_iload_n hx hb dX7_in_0 rfl (lv_at hl 0 rfl) ?_
  refine lv_iload_n hx hb dX7_in_1 rfl (lv_at hl 1 rfl) ?_
  refine lv_icmp_lt (tgt := 14) hx hb dX7_in_2 (by decide) (fun hc => ?_) (fun hc => ?_)
  · replace hM := h_t hc hM
    refine lv_iconst (v := (0 : Int32)) hx hb dX7_in_14 (by decide) ?_
    cases h_e hM
    exact a_zret C (zn (v := 0) (Or.inl rfl)) hw dX7_in_15
  · replace hM := h_f hc hM
    refine lv_iload_n hx hb dX7_in_5 rfl (lv_at hl 0 rfl) ?_
    refine lv_iload_n hx hb dX7_in_6 rfl (lv_at hl 2 rfl) ?_
    refine lv_icmp_gt (tgt := 14) hx hb dX7_in_7 (by decide) (fun hc => ?_) (fun hc => ?_)
    · replace hM := h_t hc hM
      refine lv_iconst (v := (0 : Int32)) hx hb dX7_in_14 (by decide) ?_
      cases h_e hM
      exact a_zret C (zn (v := 0) (Or.inl rfl)) hw dX7_in_15
    · replace hM := h_f hc hM
      refine lv_iconst (v := (1 : Int32)) hx hb dX7_in_10 (by decide) ?_
      refine lv_goto (tgt := 15) hx hb dX7_in_11 (by decide) ?_
      cases h_e hM
      exact a_zret C (zn (v := 1) (Or.inr rfl)) hw dX7_in_15
def rm_X7_less : Room := { frames := 0, cells := 0, slots := 0, locals := 0 }
theorem k_X7_less : aCalS yX7_less cX7_less 2 (some .int) 2 := ⟨wS_yX7_less, wZ_X7, wC_yX7_less, by decide +kernel⟩
set_option maxHeartbeats 4000000 in
set_option maxRecDepth 100000 in
theorem c_X7_less (l : Launch) {x1 : Int32} {x2 : Int32} {ι : iS} {res : Int32 × iS} (hM : m_X7_less x1 x2 ι = some res) : aM l yX7_less cX7_less 2 (some .int) rm_X7_less (fun ad => [.int x1, .int x2]) (aG ι) (some (.int res.1)) (aG res.2) := by
  refine aM.of (by decide) (fun _ => Nat.le_of_ble_eq_true rfl) ?_
  intro p e s m args below meth c D dA ad adV A ls C hw hl
  have C : aX p m c cX7_less 2 s args aTs RX7 meth (some .int) := C
  have hx := C.1.1
  have hb := C.1.2.1
  have hml := C.1.2.2.1
  have hown := C.1.2.2.2.1
  have hts := C.1.2.2.2.2
  have hl : lv_has ls 2 [(0, .int x1), (1, .int x2)] := hl
  unfold m_X7_less at hM
  refine lv_iload_n hx hb dX7_less_0 rfl (lv_at hl 0 rfl) ?_
  refine lv_iload_n hx hb dX7_less_1 rfl (lv_at hl 1 rfl) ?_
  refine lv_icmp_ge (tgt := 9) hx hb dX7_less_2 (by decide) (fun hc => ?_) (fun hc => ?_)
  · replace hM := h_t hc hM
    refine lv_iload_n hx hb dX7_less_9 rfl (lv_at hl 1 rfl) ?_
    cases h_e hM
    exact a_iret C hw dX7_less_10
  · replace hM := h_f hc hM
    refine lv_iload_n hx hb dX7_less_5 rfl (lv_at hl 0 rfl) ?_
    refine lv_goto (tgt := 10) hx hb dX7_less_6 (by decide) ?_
    cases h_e hM
    exact a_iret C hw dX7_less_10
def rm_X7_more : Room := { frames := 0, cells := 0, slots := 0, locals := 0 }
theorem k_X7_more : aCalS yX7_more cX7_more 2 (some .int) 2 := ⟨wS_yX7_more, wZ_X7, wC_yX7_more, by decide +kernel⟩
set_option maxHeartbeats 4000000 in
set_option maxRecDepth 100000 in
theorem c_X7_more (l : Launch) {x1 : Int32} {x2 : Int32} {ι : iS} {res : Int32 × iS} (hM : m_X7_more x1 x2 ι = some res) : aM l yX7_more cX7_more 2 (some .int) rm_X7_more (fun ad => [.int x1, .int x2]) (aG ι) (some (.int res.1)) (aG res.2) := by
  refine aM.of (by decide) (fun _ => Nat.le_of_ble_eq_true rfl) ?_
  intro p e s m args below meth c D dA ad adV A ls C hw hl
  have C : aX p m c cX7_more 2 s args aTs RX7 meth (some .int) := C
  have hx := C.1.1
  have hb := C.1.2.1
  have hml := C.1.2.2.1
  have hown := C.1.2.2.2.1
  have hts := C.1.2.2.2.2
  have hl : lv_has ls 2 [(0, .int x1), (1, .int x2)] := hl
  unfold m_X7_more at hM
  refine lv_iload_n hx hb dX7_more_0 rfl (lv_at hl 0 rfl) ?_
  refine lv_iload_n hx hb dX7_more_1 rfl (lv_at hl 1 rfl) ?_
  refine lv_icmp_le (tgt := 9) hx hb dX7_more_2 (by decide) (fun hc => ?_) (fun hc => ?_)
  · replace hM := h_t hc hM
    refine lv_iload_n hx hb dX7_more_9 rfl (lv_at hl 1 rfl) ?_
    cases h_e hM
    exact a_iret C hw dX7_more_10
  · replace hM := h_f hc hM
    refine lv_iload_n hx hb dX7_more_5 rfl (lv_at hl 0 rfl) ?_
    refine lv_goto (tgt := 10) hx hb dX7_more_6 (by decide) ?_
    cases h_e hM
    exact a_iret C hw dX7_more_10
def rm_X7_begins : Room := { frames := 0, cells := 0, slots := 0, locals := 0 }
set_option maxHeartbeats 4000000 in
set_option maxRecDepth 100000 in
theorem tl_X7_begins_41 (l : Launch) {p : Program} {e : Env} {s : State} {m : MethodId} {args : Array Value} {below : List Frame} {meth : Method} {c : Code} {D : va_G} {dA : Nat → ClassId} {ad adV : Nat → Nat} {A : Nat → Prop} (C : aX p m c cX7_begins 2 s args aTs RX7 meth none) {x1 : Nat} (hx1 : aKd[x1]? = some (9, 883)) {res : iS} : ∀ (n : Nat) (y1 : Int32) {ι : iS}, l_X7_begins_41 x1 n y1 ι = some res → ∀ {H : Heap} {locs : List Loc} {ls : Array Slot}, aW D dA ad adV (aG ι) A s H locs → lv_has ls 2 [(0, .ref (ad x1)), (1, .int y1)] → W p l e rm_X7_begins s m args below meth c H locs 0 0 (MQ below (aQ D dA ad (aG res) A none) args s 0 0 A) (F0 m 41 ls []) := by
  have hx := C.1.1
  have hb := C.1.2.1
  have hml := C.1.2.2.1
  have hown := C.1.2.2.2.1
  have hts := C.1.2.2.2.2
  intro n
  induction n with
  | zero => intro y1 ι hM; simp [l_X7_begins_41] at hM
  | succ n ih =>
    intro y1 ι hM H locs ls hw hl
    rw [l_X7_begins_41] at hM
    refine lv_iload_n hx hb dX7_begins_41 rfl (lv_at hl 1 rfl) ?_
    refine lv_iconst (v := (5 : Int32)) hx hb dX7_begins_42 (by decide) ?_
    refine lv_icmp_ge (tgt := 59) hx hb dX7_begins_43 (by decide) (fun hc => ?_) (fun hc => ?_)
    · replace hM := h_t hc hM
      cases h_e hM
      exact a_vret C hw dX7_begins_59
    · replace hM := h_f hc hM
      refine lv_aload_n hx hb dX7_begins_46 rfl (lv_at hl 0 rfl) ?_
      refine lv_bipush (v := (89 : Int32)) hx hb dX7_begins_47 (by decide) ?_
      refine lv_iload_n hx hb dX7_begins_49 rfl (lv_at hl 1 rfl) ?_
      refine lv_iadd hx hb dX7_begins_50 ?_
      refine lv_iconst (v := (-1 : Int32)) hx hb dX7_begins_51 (by decide) ?_
      obtain ⟨hi, hM⟩ := h_i hM
      refine a_iast (σ := aG ι) (o := x1) C hw hx1 hi rfl dX7_begins_52 (fun H locs hw => ?_)
      have hw : aW D dA ad adV (aG (pI ι x1 ((89 : Int32) + y1).toNatClampNeg (-1 : Int32))) A s H locs := hw
      refine lv_iinc (v := (y1 + 1)) (lv' := [(1, .int (y1 + 1)), (0, .ref (ad x1))]) hx hb dX7_begins_53 hl (k := 1) rfl rfl (by decide) rfl (fun ls hl => ?_)
      refine lv_goto (tgt := 41) hx hb dX7_begins_56 (by decide) ?_
      exact ih ((y1 + 1)) hM hw (lv_sub hl [1, 0] rfl)
set_option maxHeartbeats 4000000 in
set_option maxRecDepth 100000 in
theorem tl_X7_begins_2 (l : Launch) {p : Program} {e : Env} {s : State} {m : MethodId} {args : Array Value} {below : List Frame} {meth : Method} {c : Code} {D : va_G} {dA : Nat → ClassId} {ad adV : Nat → Nat} {A : Nat → Prop} (C : aX p m c cX7_begins 2 s args aTs RX7 meth none) {x1 : Nat} (hx1 : aKd[x1]? = some (9, 883)) {res : iS} : ∀ (n : Nat) (y1 : Int32) {ι : iS}, l_X7_begins_2 x1 n y1 ι = some res → ∀ {H : Heap} {locs : List Loc} {ls : Array Slot}, aW D dA ad adV (aG ι) A s H locs → lv_has ls 2 [(0, .ref (ad x1)), (1, .int y1)] → W p l e rm_X7_begins s m args below meth c H locs 0 0 (MQ below (aQ D dA ad (aG res) A none) args s 0 0 A) (F0 m 2 ls []) := by
  have hx := C.1.1
  have hb := C.1.2.1
  have hml := C.1.2.2.1
  have hown := C.1.2.2.2.1
  have hts := C.1.2.2.2.2
  intro n
  induction n with
  | zero => intro y1 ι hM; simp [l_X7_begins_2] at hM
  | succ n ih =>
    intro y1 ι hM H locs ls hw hl
    rw [l_X7_begins_2] at hM
    refine lv_iload_n hx hb dX7_begins_2 rfl (lv_at hl 1 rfl) ?_
    refine lv_sipush (v := (883 : Int32)) hx hb dX7_begins_3 (by decide) ?_
    refine lv_icmp_ge (tgt := 19) hx hb dX7_begins_6 (by decide) (fun hc => ?_) (fun hc => ?_)
    · replace hM := h_t hc hM
      refine lv_aload_n hx hb dX7_begins_19 rfl (lv_at hl 0 rfl) ?_
      refine lv_iconst (v := (4 : Int32)) hx hb dX7_begins_20 (by decide) ?_
      refine lv_iconst (v := (2 : Int32)) hx hb dX7_begins_21 (by decide) ?_
      refine a_iast (σ := aG ι) (o := x1) C hw hx1 (aIn_v (by decide)) (show (4 : Int32).toNatClampNeg = 4 by decide) dX7_begins_22 (fun H locs hw => ?_)
      have hw : aW D dA ad adV (aG (pI ι x1 4 (2 : Int32))) A s H locs := hw
      refine lv_aload_n hx hb dX7_begins_23 rfl (lv_at hl 0 rfl) ?_
      refine lv_iconst (v := (5 : Int32)) hx hb dX7_begins_24 (by decide) ?_
      refine lv_bipush (v := (30 : Int32)) hx hb dX7_begins_25 (by decide) ?_
      refine a_iast (σ := aG (pI ι x1 4 (2 : Int32))) (o := x1) C hw hx1 (aIn_v (by decide)) (show (5 : Int32).toNatClampNeg = 5 by decide) dX7_begins_27 (fun H locs hw => ?_)
      have hw : aW D dA ad adV (aG (pI (pI ι x1 4 (2 : Int32)) x1 5 (30 : Int32))) A s H locs := hw
      refine lv_aload_n hx hb dX7_begins_28 rfl (lv_at hl 0 rfl) ?_
      refine lv_bipush (v := (6 : Int32)) hx hb dX7_begins_29 (by decide) ?_
      refine lv_iconst (v := (5 : Int32)) hx hb dX7_begins_31 (by decide) ?_
      refine a_iast (σ := aG (pI (pI ι x1 4 (2 : Int32)) x1 5 (30 : Int32))) (o := x1) C hw hx1 (aIn_v (by decide)) (show (6 : Int32).toNatClampNeg = 6 by decide) dX7_begins_32 (fun H locs hw => ?_)
      have hw : aW D dA ad adV (aG (pI (pI (pI ι x1 4 (2 : Int32)) x1 5 (30 : Int32)) x1 6 (5 : Int32))) A s H locs := hw
      refine lv_aload_n hx hb dX7_begins_33 rfl (lv_at hl 0 rfl) ?_
      refine lv_bipush (v := (7 : Int32)) hx hb dX7_begins_34 (by decide) ?_
      refine lv_bipush (v := (50 : Int32)) hx hb dX7_begins_36 (by decide) ?_
      refine a_iast (σ := aG (pI (pI (pI ι x1 4 (2 : Int32)) x1 5 (30 : Int32)) x1 6 (5 : Int32))) (o := x1) C hw hx1 (aIn_v (by decide)) (show (7 : Int32).toNatClampNeg = 7 by decide) dX7_begins_38 (fun H locs hw => ?_)
      have hw : aW D dA ad adV (aG (pI (pI (pI (pI ι x1 4 (2 : Int32)) x1 5 (30 : Int32)) x1 6 (5 : Int32)) x1 7 (50 : Int32))) A s H locs := hw
      refine lv_iconst (v := (0 : Int32)) hx hb dX7_begins_39 (by decide) ?_
      refine lv_istore_n (lv' := [(1, .int (0 : Int32)), (0, .ref (ad x1))]) hx hb dX7_begins_40 rfl hl (by decide) rfl (fun ls hl => ?_)
      exact tl_X7_begins_41 l C hx1 aF ((0 : Int32)) hM hw (lv_sub hl [1, 0] rfl)
    · replace hM := h_f hc hM
      refine lv_aload_n hx hb dX7_begins_9 rfl (lv_at hl 0 rfl) ?_
      refine lv_iload_n hx hb dX7_begins_10 rfl (lv_at hl 1 rfl) ?_
      refine lv_iconst (v := (0 : Int32)) hx hb dX7_begins_11 (by decide) ?_
      obtain ⟨hi, hM⟩ := h_i hM
      refine a_iast (σ := aG ι) (o := x1) C hw hx1 hi rfl dX7_begins_12 (fun H locs hw => ?_)
      have hw : aW D dA ad adV (aG (pI ι x1 y1.toNatClampNeg (0 : Int32))) A s H locs := hw
      refine lv_iinc (v := (y1 + 1)) (lv' := [(1, .int (y1 + 1)), (0, .ref (ad x1))]) hx hb dX7_begins_13 hl (k := 1) rfl rfl (by decide) rfl (fun ls hl => ?_)
      refine lv_goto (tgt := 2) hx hb dX7_begins_16 (by decide) ?_
      exact ih ((y1 + 1)) hM hw (lv_sub hl [1, 0] rfl)
theorem k_X7_begins : aCalS yX7_begins cX7_begins 2 none 1 := ⟨wS_yX7_begins, wZ_X7, wC_yX7_begins, by decide +kernel⟩
set_option maxHeartbeats 4000000 in
set_option maxRecDepth 100000 in
theorem c_X7_begins (l : Launch) {x1 : Nat} (hx1 : aKd[x1]? = some (9, 883)) {ι : iS} {res : iS} (hM : m_X7_begins x1 ι = some res) : aM l yX7_begins cX7_begins 2 none rm_X7_begins (fun ad => [.ref (ad x1)]) (aG ι) none (aG res) := by
  refine aM.of (by decide) (fun _ => Nat.le_of_ble_eq_true rfl) ?_
  intro p e s m args below meth c D dA ad adV A ls C hw hl
  have C : aX p m c cX7_begins 2 s args aTs RX7 meth none := C
  have hx := C.1.1
  have hb := C.1.2.1
  have hml := C.1.2.2.1
  have hown := C.1.2.2.2.1
  have hts := C.1.2.2.2.2
  have hl : lv_has ls 2 [(0, .ref (ad x1))] := hl
  unfold m_X7_begins at hM
  refine lv_iconst (v := (0 : Int32)) hx hb dX7_begins_0 (by decide) ?_
  refine lv_istore_n (lv' := [(1, .int (0 : Int32)), (0, .ref (ad x1))]) hx hb dX7_begins_1 rfl hl (by decide) rfl (fun ls hl => ?_)
  exact tl_X7_begins_2 l C hx1 aF ((0 : Int32)) hM hw (lv_sub hl [1, 0] rfl)
def rm_X7_feed : Room := { frames := 0, cells := 0, slots := 0, locals := 0 }
set_option maxHeartbeats 4000000 in
set_option maxRecDepth 100000 in
theorem tl_X7_feed_23 (l : Launch) {p : Program} {e : Env} {s : State} {m : MethodId} {args : Array Value} {below : List Frame} {meth : Method} {c : Code} {D : va_G} {dA : Nat → ClassId} {ad adV : Nat → Nat} {A : Nat → Prop} (C : aX p m c cX7_feed 8 s args aTs RX7 meth (some .int)) {res : Int32 × iS} : ∀ (n : Nat) (y1 : Int32) (y2 : Int32) (y3 : Int32) (y4 : Int32) (y5 : Int32) (y6 : Int32) {ι : iS}, l_X7_feed_23 n y1 y2 y3 y4 y5 y6 ι = some res → ∀ {H : Heap} {locs : List Loc} {ls : Array Slot}, aW D dA ad adV (aG ι) A s H locs → lv_has ls 8 [(0, .ref (ad 109)), (1, .int y1), (2, .int y2), (3, .int y3), (4, .int y4), (5, .int y5), (6, .int y6)] → W p l e rm_X7_feed s m args below meth c H locs 0 0 (MQ below (aQ D dA ad (aG res.2) A (some (.int res.1))) args s 0 0 A) (F0 m 23 ls []) := by
  have hx := C.1.1
  have hb := C.1.2.1
  have hml := C.1.2.2.1
  have hown := C.1.2.2.2.1
  have hts := C.1.2.2.2.2
  intro n
  induction n with
  | zero => intro y1 y2 y3 y4 y5 y6 ι hM; simp [l_X7_feed_23] at hM
  | succ n ih =>
    intro y1 y2 y3 y4 y5 y6 ι hM H locs ls hw hl
    rw [l_X7_feed_23] at hM
    refine lv_iload hx hb dX7_feed_23 (lv_at hl 6 rfl) ?_
    refine lv_bipush (v := (20 : Int32)) hx hb dX7_feed_25 (by decide) ?_
    refine lv_icmp_ge (tgt := 120) hx hb dX7_feed_27 (by decide) (fun hc => ?_) (fun hc => ?_)
    · replace hM := h_t hc hM
      refine lv_aload_n hx hb dX7_feed_120 rfl (lv_at hl 0 rfl) ?_
      refine a_geti (σ := aG ι) (o := 109) (T := TX7) (N := 20) C wU_X7 hw rfl (by decide) rfl 2 (by decide) rfl wF_X7_45 dX7_feed_121 ?_
      cases h_e hM
      exact a_iret C hw dX7_feed_124
    · replace hM := h_f hc hM
      refine lv_iload hx hb dX7_feed_30 (lv_at hl 6 rfl) ?_
      refine lv_iconst (v := (4 : Int32)) hx hb dX7_feed_32 (by decide) ?_
      refine lv_icmp_ge (tgt := 40) hx hb dX7_feed_33 (by decide) (fun hc => ?_) (fun hc => ?_)
      · replace hM := h_t hc hM
        refine lv_iload hx hb dX7_feed_40 (lv_at hl 6 rfl) ?_
        refine lv_bipush (v := (8 : Int32)) hx hb dX7_feed_42 (by decide) ?_
        refine lv_icmp_ge (tgt := 51) hx hb dX7_feed_44 (by decide) (fun hc => ?_) (fun hc => ?_)
        · replace hM := h_t hc hM
          refine lv_iload hx hb dX7_feed_51 (lv_at hl 6 rfl) ?_
          refine lv_bipush (v := (12 : Int32)) hx hb dX7_feed_53 (by decide) ?_
          refine lv_icmp_ge (tgt := 62) hx hb dX7_feed_55 (by decide) (fun hc => ?_) (fun hc => ?_)
          · replace hM := h_t hc hM
            refine lv_iload hx hb dX7_feed_62 (lv_at hl 6 rfl) ?_
            refine lv_bipush (v := (16 : Int32)) hx hb dX7_feed_64 (by decide) ?_
            refine lv_icmp_ge (tgt := 74) hx hb dX7_feed_66 (by decide) (fun hc => ?_) (fun hc => ?_)
            · replace hM := h_t hc hM
              refine lv_iload hx hb dX7_feed_74 (lv_at hl 5 rfl) ?_
              refine lv_istore (lv' := [(7, .int y5), (0, .ref (ad 109)), (1, .int y1), (2, .int y2), (3, .int y3), (4, .int y4), (5, .int y5), (6, .int y6)]) hx hb dX7_feed_76 hl (by decide) rfl (fun ls hl => ?_)
              refine lv_aload_n hx hb dX7_feed_78 rfl (lv_at hl 1 rfl) ?_
              refine a_getp (q := 111) (σ := aG ι) (o := 109) (T := TX7) (N := 20) C wU_X7 hw rfl (by decide) rfl 8 (by decide) rfl wF_X7_17 (aG_P rfl rfl) dX7_feed_79 ?_
              refine lv_aload_n hx hb dX7_feed_82 rfl (lv_at hl 1 rfl) ?_
              refine a_geti (σ := aG ι) (o := 109) (T := TX7) (N := 20) C wU_X7 hw rfl (by decide) rfl 2 (by decide) rfl wF_X7_45 dX7_feed_83 ?_
              refine lv_iload hx hb dX7_feed_86 (lv_at hl 0 rfl) ?_
              refine lv_bipush (v := (24 : Int32)) hx hb dX7_feed_88 (by decide) ?_
              refine lv_bipush (v := (8 : Int32)) hx hb dX7_feed_90 (by decide) ?_
              refine lv_iload hx hb dX7_feed_92 (lv_at hl 7 rfl) ?_
              refine lv_iconst (v := (4 : Int32)) hx hb dX7_feed_94 (by decide) ?_
              refine lv_irem hx hb dX7_feed_95 (by decide) ?_
              refine lv_imul hx hb dX7_feed_96 ?_
              refine lv_isub hx hb dX7_feed_97 ?_
              refine lv_ishr hx hb dX7_feed_98 ?_
              refine lv_sipush (v := (255 : Int32)) hx hb dX7_feed_99 (by decide) ?_
              refine lv_iand hx hb dX7_feed_102 ?_
              obtain ⟨hi, hM⟩ := h_i hM
              refine a_iast (σ := aG ι) (o := 111) C hw rfl hi rfl dX7_feed_103 (fun H locs hw => ?_)
              have hw : aW D dA ad adV (aG (pI ι 111 (gI ι 109 2).toNatClampNeg ((y5 >>> (((24 : Int32) - ((8 : Int32) * (y6 - y6 / (4 : Int32) * (4 : Int32)))) &&& 31)) &&& (255 : Int32)))) A s H locs := hw
              refine lv_aload_n hx hb dX7_feed_104 rfl (lv_at hl 1 rfl) ?_
              refine lv_dup hx hb dX7_feed_105 rfl ?_
              refine a_geti (σ := aG (pI ι 111 (gI ι 109 2).toNatClampNeg ((y5 >>> (((24 : Int32) - ((8 : Int32) * (y6 - y6 / (4 : Int32) * (4 : Int32)))) &&& 31)) &&& (255 : Int32)))) (o := 109) (T := TX7) (N := 20) C wU_X7 hw rfl (by decide) rfl 2 (by decide) rfl wF_X7_45 dX7_feed_106 ?_
              refine lv_iconst (v := (1 : Int32)) hx hb dX7_feed_109 (by decide) ?_
              refine lv_iadd hx hb dX7_feed_110 ?_
              refine a_puti (ty := .int) (σ := aG (pI ι 111 (gI ι 109 2).toNatClampNeg ((y5 >>> (((24 : Int32) - ((8 : Int32) * (y6 - y6 / (4 : Int32) * (4 : Int32)))) &&& 31)) &&& (255 : Int32)))) (o := 109) (T := TX7) (N := 20) (ty0 := tyX7) C wU_X7 tyX7_ok nmX7 hw rfl (by decide) rfl 2 (by decide) rfl wF_X7_45 rfl (by decide +kernel) rfl rfl dX7_feed_111 (fun H locs hw => ?_)
              have hw : aW D dA ad adV (aG (pI (pI ι 111 (gI ι 109 2).toNatClampNeg ((y5 >>> (((24 : Int32) - ((8 : Int32) * (y6 - y6 / (4 : Int32) * (4 : Int32)))) &&& 31)) &&& (255 : Int32))) 109 2 ((gI (pI ι 111 (gI ι 109 2).toNatClampNeg ((y5 >>> (((24 : Int32) - ((8 : Int32) * (y6 - y6 / (4 : Int32) * (4 : Int32)))) &&& 31)) &&& (255 : Int32))) 109 2) + (1 : Int32)))) A s H locs := hw
              refine lv_iinc (v := (y6 + 1)) (lv' := [(6, .int (y6 + 1)), (7, .int y5), (0, .ref (ad 109)), (1, .int y1), (2, .int y2), (3, .int y3), (4, .int y4), (5, .int y5)]) hx hb dX7_feed_114 hl (k := 7) rfl rfl (by decide) rfl (fun ls hl => ?_)
              refine lv_goto (tgt := 23) hx hb dX7_feed_117 (by decide) ?_
              exact ih (y1) (y2) (y3) (y4) (y5) ((y6 + 1)) hM hw (lv_sub hl [2, 3, 4, 5, 6, 7, 0] rfl)
            · replace hM := h_f hc hM
              refine lv_iload hx hb dX7_feed_69 (lv_at hl 4 rfl) ?_
              refine lv_goto (tgt := 76) hx hb dX7_feed_71 (by decide) ?_
              refine lv_istore (lv' := [(7, .int y4), (0, .ref (ad 109)), (1, .int y1), (2, .int y2), (3, .int y3), (4, .int y4), (5, .int y5), (6, .int y6)]) hx hb dX7_feed_76 hl (by decide) rfl (fun ls hl => ?_)
              refine lv_aload_n hx hb dX7_feed_78 rfl (lv_at hl 1 rfl) ?_
              refine a_getp (q := 111) (σ := aG ι) (o := 109) (T := TX7) (N := 20) C wU_X7 hw rfl (by decide) rfl 8 (by decide) rfl wF_X7_17 (aG_P rfl rfl) dX7_feed_79 ?_
              refine lv_aload_n hx hb dX7_feed_82 rfl (lv_at hl 1 rfl) ?_
              refine a_geti (σ := aG ι) (o := 109) (T := TX7) (N := 20) C wU_X7 hw rfl (by decide) rfl 2 (by decide) rfl wF_X7_45 dX7_feed_83 ?_
              refine lv_iload hx hb dX7_feed_86 (lv_at hl 0 rfl) ?_
              refine lv_bipush (v := (24 : Int32)) hx hb dX7_feed_88 (by decide) ?_
              refine lv_bipush (v := (8 : Int32)) hx hb dX7_feed_90 (by decide) ?_
              refine lv_iload hx hb dX7_feed_92 (lv_at hl 7 rfl) ?_
              refine lv_iconst (v := (4 : Int32)) hx hb dX7_feed_94 (by decide) ?_
              refine lv_irem hx hb dX7_feed_95 (by decide) ?_
              refine lv_imul hx hb dX7_feed_96 ?_
              refine lv_isub hx hb dX7_feed_97 ?_
              refine lv_ishr hx hb dX7_feed_98 ?_
              refine lv_sipush (v := (255 : Int32)) hx hb dX7_feed_99 (by decide) ?_
              refine lv_iand hx hb dX7_feed_102 ?_
              obtain ⟨hi, hM⟩ := h_i hM
              refine a_iast (σ := aG ι) (o := 111) C hw rfl hi rfl dX7_feed_103 (fun H locs hw => ?_)
              have hw : aW D dA ad adV (aG (pI ι 111 (gI ι 109 2).toNatClampNeg ((y4 >>> (((24 : Int32) - ((8 : Int32) * (y6 - y6 / (4 : Int32) * (4 : Int32)))) &&& 31)) &&& (255 : Int32)))) A s H locs := hw
              refine lv_aload_n hx hb dX7_feed_104 rfl (lv_at hl 1 rfl) ?_
              refine lv_dup hx hb dX7_feed_105 rfl ?_
              refine a_geti (σ := aG (pI ι 111 (gI ι 109 2).toNatClampNeg ((y4 >>> (((24 : Int32) - ((8 : Int32) * (y6 - y6 / (4 : Int32) * (4 : Int32)))) &&& 31)) &&& (255 : Int32)))) (o := 109) (T := TX7) (N := 20) C wU_X7 hw rfl (by decide) rfl 2 (by decide) rfl wF_X7_45 dX7_feed_106 ?_
              refine lv_iconst (v := (1 : Int32)) hx hb dX7_feed_109 (by decide) ?_
              refine lv_iadd hx hb dX7_feed_110 ?_
              refine a_puti (ty := .int) (σ := aG (pI ι 111 (gI ι 109 2).toNatClampNeg ((y4 >>> (((24 : Int32) - ((8 : Int32) * (y6 - y6 / (4 : Int32) * (4 : Int32)))) &&& 31)) &&& (255 : Int32)))) (o := 109) (T := TX7) (N := 20) (ty0 := tyX7) C wU_X7 tyX7_ok nmX7 hw rfl (by decide) rfl 2 (by decide) rfl wF_X7_45 rfl (by decide +kernel) rfl rfl dX7_feed_111 (fun H locs hw => ?_)
              have hw : aW D dA ad adV (aG (pI (pI ι 111 (gI ι 109 2).toNatClampNeg ((y4 >>> (((24 : Int32) - ((8 : Int32) * (y6 - y6 / (4 : Int32) * (4 : Int32)))) &&& 31)) &&& (255 : Int32))) 109 2 ((gI (pI ι 111 (gI ι 109 2).toNatClampNeg ((y4 >>> (((24 : Int32) - ((8 : Int32) * (y6 - y6 / (4 : Int32) * (4 : Int32)))) &&& 31)) &&& (255 : Int32))) 109 2) + (1 : Int32)))) A s H locs := hw
              refine lv_iinc (v := (y6 + 1)) (lv' := [(6, .int (y6 + 1)), (7, .int y4), (0, .ref (ad 109)), (1, .int y1), (2, .int y2), (3, .int y3), (4, .int y4), (5, .int y5)]) hx hb dX7_feed_114 hl (k := 7) rfl rfl (by decide) rfl (fun ls hl => ?_)
              refine lv_goto (tgt := 23) hx hb dX7_feed_117 (by decide) ?_
              exact ih (y1) (y2) (y3) (y4) (y5) ((y6 + 1)) hM hw (lv_sub hl [2, 3, 4, 5, 6, 7, 0] rfl)
          · replace hM := h_f hc hM
            refine lv_iload_n hx hb dX7_feed_58 rfl (lv_at hl 3 rfl) ?_
            refine lv_goto (tgt := 76) hx hb dX7_feed_59 (by decide) ?_
            refine lv_istore (lv' := [(7, .int y3), (0, .ref (ad 109)), (1, .int y1), (2, .int y2), (3, .int y3), (4, .int y4), (5, .int y5), (6, .int y6)]) hx hb dX7_feed_76 hl (by decide) rfl (fun ls hl => ?_)
            refine lv_aload_n hx hb dX7_feed_78 rfl (lv_at hl 1 rfl) ?_
            refine a_getp (q := 111) (σ := aG ι) (o := 109) (T := TX7) (N := 20) C wU_X7 hw rfl (by decide) rfl 8 (by decide) rfl wF_X7_17 (aG_P rfl rfl) dX7_feed_79 ?_
            refine lv_aload_n hx hb dX7_feed_82 rfl (lv_at hl 1 rfl) ?_
            refine a_geti (σ := aG ι) (o := 109) (T := TX7) (N := 20) C wU_X7 hw rfl (by decide) rfl 2 (by decide) rfl wF_X7_45 dX7_feed_83 ?_
            refine lv_iload hx hb dX7_feed_86 (lv_at hl 0 rfl) ?_
            refine lv_bipush (v := (24 : Int32)) hx hb dX7_feed_88 (by decide) ?_
            refine lv_bipush (v := (8 : Int32)) hx hb dX7_feed_90 (by decide) ?_
            refine lv_iload hx hb dX7_feed_92 (lv_at hl 7 rfl) ?_
            refine lv_iconst (v := (4 : Int32)) hx hb dX7_feed_94 (by decide) ?_
            refine lv_irem hx hb dX7_feed_95 (by decide) ?_
            refine lv_imul hx hb dX7_feed_96 ?_
            refine lv_isub hx hb dX7_feed_97 ?_
            refine lv_ishr hx hb dX7_feed_98 ?_
            refine lv_sipush (v := (255 : Int32)) hx hb dX7_feed_99 (by decide) ?_
            refine lv_iand hx hb dX7_feed_102 ?_
            obtain ⟨hi, hM⟩ := h_i hM
            refine a_iast (σ := aG ι) (o := 111) C hw rfl hi rfl dX7_feed_103 (fun H locs hw => ?_)
            have hw : aW D dA ad adV (aG (pI ι 111 (gI ι 109 2).toNatClampNeg ((y3 >>> (((24 : Int32) - ((8 : Int32) * (y6 - y6 / (4 : Int32) * (4 : Int32)))) &&& 31)) &&& (255 : Int32)))) A s H locs := hw
            refine lv_aload_n hx hb dX7_feed_104 rfl (lv_at hl 1 rfl) ?_
            refine lv_dup hx hb dX7_feed_105 rfl ?_
            refine a_geti (σ := aG (pI ι 111 (gI ι 109 2).toNatClampNeg ((y3 >>> (((24 : Int32) - ((8 : Int32) * (y6 - y6 / (4 : Int32) * (4 : Int32)))) &&& 31)) &&& (255 : Int32)))) (o := 109) (T := TX7) (N := 20) C wU_X7 hw rfl (by decide) rfl 2 (by decide) rfl wF_X7_45 dX7_feed_106 ?_
            refine lv_iconst (v := (1 : Int32)) hx hb dX7_feed_109 (by decide) ?_
            refine lv_iadd hx hb dX7_feed_110 ?_
            refine a_puti (ty := .int) (σ := aG (pI ι 111 (gI ι 109 2).toNatClampNeg ((y3 >>> (((24 : Int32) - ((8 : Int32) * (y6 - y6 / (4 : Int32) * (4 : Int32)))) &&& 31)) &&& (255 : Int32)))) (o := 109) (T := TX7) (N := 20) (ty0 := tyX7) C wU_X7 tyX7_ok nmX7 hw rfl (by decide) rfl 2 (by decide) rfl wF_X7_45 rfl (by decide +kernel) rfl rfl dX7_feed_111 (fun H locs hw => ?_)
            have hw : aW D dA ad adV (aG (pI (pI ι 111 (gI ι 109 2).toNatClampNeg ((y3 >>> (((24 : Int32) - ((8 : Int32) * (y6 - y6 / (4 : Int32) * (4 : Int32)))) &&& 31)) &&& (255 : Int32))) 109 2 ((gI (pI ι 111 (gI ι 109 2).toNatClampNeg ((y3 >>> (((24 : Int32) - ((8 : Int32) * (y6 - y6 / (4 : Int32) * (4 : Int32)))) &&& 31)) &&& (255 : Int32))) 109 2) + (1 : Int32)))) A s H locs := hw
            refine lv_iinc (v := (y6 + 1)) (lv' := [(6, .int (y6 + 1)), (7, .int y3), (0, .ref (ad 109)), (1, .int y1), (2, .int y2), (3, .int y3), (4, .int y4), (5, .int y5)]) hx hb dX7_feed_114 hl (k := 7) rfl rfl (by decide) rfl (fun ls hl => ?_)
            refine lv_goto (tgt := 23) hx hb dX7_feed_117 (by decide) ?_
            exact ih (y1) (y2) (y3) (y4) (y5) ((y6 + 1)) hM hw (lv_sub hl [2, 3, 4, 5, 6, 7, 0] rfl)
        · replace hM := h_f hc hM
          refine lv_iload_n hx hb dX7_feed_47 rfl (lv_at hl 2 rfl) ?_
          refine lv_goto (tgt := 76) hx hb dX7_feed_48 (by decide) ?_
          refine lv_istore (lv' := [(7, .int y2), (0, .ref (ad 109)), (1, .int y1), (2, .int y2), (3, .int y3), (4, .int y4), (5, .int y5), (6, .int y6)]) hx hb dX7_feed_76 hl (by decide) rfl (fun ls hl => ?_)
          refine lv_aload_n hx hb dX7_feed_78 rfl (lv_at hl 1 rfl) ?_
          refine a_getp (q := 111) (σ := aG ι) (o := 109) (T := TX7) (N := 20) C wU_X7 hw rfl (by decide) rfl 8 (by decide) rfl wF_X7_17 (aG_P rfl rfl) dX7_feed_79 ?_
          refine lv_aload_n hx hb dX7_feed_82 rfl (lv_at hl 1 rfl) ?_
          refine a_geti (σ := aG ι) (o := 109) (T := TX7) (N := 20) C wU_X7 hw rfl (by decide) rfl 2 (by decide) rfl wF_X7_45 dX7_feed_83 ?_
          refine lv_iload hx hb dX7_feed_86 (lv_at hl 0 rfl) ?_
          refine lv_bipush (v := (24 : Int32)) hx hb dX7_feed_88 (by decide) ?_
          refine lv_bipush (v := (8 : Int32)) hx hb dX7_feed_90 (by decide) ?_
          refine lv_iload hx hb dX7_feed_92 (lv_at hl 7 rfl) ?_
          refine lv_iconst (v := (4 : Int32)) hx hb dX7_feed_94 (by decide) ?_
          refine lv_irem hx hb dX7_feed_95 (by decide) ?_
          refine lv_imul hx hb dX7_feed_96 ?_
          refine lv_isub hx hb dX7_feed_97 ?_
          refine lv_ishr hx hb dX7_feed_98 ?_
          refine lv_sipush (v := (255 : Int32)) hx hb dX7_feed_99 (by decide) ?_
          refine lv_iand hx hb dX7_feed_102 ?_
          obtain ⟨hi, hM⟩ := h_i hM
          refine a_iast (σ := aG ι) (o := 111) C hw rfl hi rfl dX7_feed_103 (fun H locs hw => ?_)
          have hw : aW D dA ad adV (aG (pI ι 111 (gI ι 109 2).toNatClampNeg ((y2 >>> (((24 : Int32) - ((8 : Int32) * (y6 - y6 / (4 : Int32) * (4 : Int32)))) &&& 31)) &&& (255 : Int32)))) A s H locs := hw
          refine lv_aload_n hx hb dX7_feed_104 rfl (lv_at hl 1 rfl) ?_
          refine lv_dup hx hb dX7_feed_105 rfl ?_
          refine a_geti (σ := aG (pI ι 111 (gI ι 109 2).toNatClampNeg ((y2 >>> (((24 : Int32) - ((8 : Int32) * (y6 - y6 / (4 : Int32) * (4 : Int32)))) &&& 31)) &&& (255 : Int32)))) (o := 109) (T := TX7) (N := 20) C wU_X7 hw rfl (by decide) rfl 2 (by decide) rfl wF_X7_45 dX7_feed_106 ?_
          refine lv_iconst (v := (1 : Int32)) hx hb dX7_feed_109 (by decide) ?_
          refine lv_iadd hx hb dX7_feed_110 ?_
          refine a_puti (ty := .int) (σ := aG (pI ι 111 (gI ι 109 2).toNatClampNeg ((y2 >>> (((24 : Int32) - ((8 : Int32) * (y6 - y6 / (4 : Int32) * (4 : Int32)))) &&& 31)) &&& (255 : Int32)))) (o := 109) (T := TX7) (N := 20) (ty0 := tyX7) C wU_X7 tyX7_ok nmX7 hw rfl (by decide) rfl 2 (by decide) rfl wF_X7_45 rfl (by decide +kernel) rfl rfl dX7_feed_111 (fun H locs hw => ?_)
          have hw : aW D dA ad adV (aG (pI (pI ι 111 (gI ι 109 2).toNatClampNeg ((y2 >>> (((24 : Int32) - ((8 : Int32) * (y6 - y6 / (4 : Int32) * (4 : Int32)))) &&& 31)) &&& (255 : Int32))) 109 2 ((gI (pI ι 111 (gI ι 109 2).toNatClampNeg ((y2 >>> (((24 : Int32) - ((8 : Int32) * (y6 - y6 / (4 : Int32) * (4 : Int32)))) &&& 31)) &&& (255 : Int32))) 109 2) + (1 : Int32)))) A s H locs := hw
          refine lv_iinc (v := (y6 + 1)) (lv' := [(6, .int (y6 + 1)), (7, .int y2), (0, .ref (ad 109)), (1, .int y1), (2, .int y2), (3, .int y3), (4, .int y4), (5, .int y5)]) hx hb dX7_feed_114 hl (k := 7) rfl rfl (by decide) rfl (fun ls hl => ?_)
          refine lv_goto (tgt := 23) hx hb dX7_feed_117 (by decide) ?_
          exact ih (y1) (y2) (y3) (y4) (y5) ((y6 + 1)) hM hw (lv_sub hl [2, 3, 4, 5, 6, 7, 0] rfl)
      · replace hM := h_f hc hM
        refine lv_iload_n hx hb dX7_feed_36 rfl (lv_at hl 1 rfl) ?_
        refine lv_goto (tgt := 76) hx hb dX7_feed_37 (by decide) ?_
        refine lv_istore (lv' := [(7, .int y1), (0, .ref (ad 109)), (1, .int y1), (2, .int y2), (3, .int y3), (4, .int y4), (5, .int y5), (6, .int y6)]) hx hb dX7_feed_76 hl (by decide) rfl (fun ls hl => ?_)
        refine lv_aload_n hx hb dX7_feed_78 rfl (lv_at hl 1 rfl) ?_
        refine a_getp (q := 111) (σ := aG ι) (o := 109) (T := TX7) (N := 20) C wU_X7 hw rfl (by decide) rfl 8 (by decide) rfl wF_X7_17 (aG_P rfl rfl) dX7_feed_79 ?_
        refine lv_aload_n hx hb dX7_feed_82 rfl (lv_at hl 1 rfl) ?_
        refine a_geti (σ := aG ι) (o := 109) (T := TX7) (N := 20) C wU_X7 hw rfl (by decide) rfl 2 (by decide) rfl wF_X7_45 dX7_feed_83 ?_
        refine lv_iload hx hb dX7_feed_86 (lv_at hl 0 rfl) ?_
        refine lv_bipush (v := (24 : Int32)) hx hb dX7_feed_88 (by decide) ?_
        refine lv_bipush (v := (8 : Int32)) hx hb dX7_feed_90 (by decide) ?_
        refine lv_iload hx hb dX7_feed_92 (lv_at hl 7 rfl) ?_
        refine lv_iconst (v := (4 : Int32)) hx hb dX7_feed_94 (by decide) ?_
        refine lv_irem hx hb dX7_feed_95 (by decide) ?_
        refine lv_imul hx hb dX7_feed_96 ?_
        refine lv_isub hx hb dX7_feed_97 ?_
        refine lv_ishr hx hb dX7_feed_98 ?_
        refine lv_sipush (v := (255 : Int32)) hx hb dX7_feed_99 (by decide) ?_
        refine lv_iand hx hb dX7_feed_102 ?_
        obtain ⟨hi, hM⟩ := h_i hM
        refine a_iast (σ := aG ι) (o := 111) C hw rfl hi rfl dX7_feed_103 (fun H locs hw => ?_)
        have hw : aW D dA ad adV (aG (pI ι 111 (gI ι 109 2).toNatClampNeg ((y1 >>> (((24 : Int32) - ((8 : Int32) * (y6 - y6 / (4 : Int32) * (4 : Int32)))) &&& 31)) &&& (255 : Int32)))) A s H locs := hw
        refine lv_aload_n hx hb dX7_feed_104 rfl (lv_at hl 1 rfl) ?_
        refine lv_dup hx hb dX7_feed_105 rfl ?_
        refine a_geti (σ := aG (pI ι 111 (gI ι 109 2).toNatClampNeg ((y1 >>> (((24 : Int32) - ((8 : Int32) * (y6 - y6 / (4 : Int32) * (4 : Int32)))) &&& 31)) &&& (255 : Int32)))) (o := 109) (T := TX7) (N := 20) C wU_X7 hw rfl (by decide) rfl 2 (by decide) rfl wF_X7_45 dX7_feed_106 ?_
        refine lv_iconst (v := (1 : Int32)) hx hb dX7_feed_109 (by decide) ?_
        refine lv_iadd hx hb dX7_feed_110 ?_
        refine a_puti (ty := .int) (σ := aG (pI ι 111 (gI ι 109 2).toNatClampNeg ((y1 >>> (((24 : Int32) - ((8 : Int32) * (y6 - y6 / (4 : Int32) * (4 : Int32)))) &&& 31)) &&& (255 : Int32)))) (o := 109) (T := TX7) (N := 20) (ty0 := tyX7) C wU_X7 tyX7_ok nmX7 hw rfl (by decide) rfl 2 (by decide) rfl wF_X7_45 rfl (by decide +kernel) rfl rfl dX7_feed_111 (fun H locs hw => ?_)
        have hw : aW D dA ad adV (aG (pI (pI ι 111 (gI ι 109 2).toNatClampNeg ((y1 >>> (((24 : Int32) - ((8 : Int32) * (y6 - y6 / (4 : Int32) * (4 : Int32)))) &&& 31)) &&& (255 : Int32))) 109 2 ((gI (pI ι 111 (gI ι 109 2).toNatClampNeg ((y1 >>> (((24 : Int32) - ((8 : Int32) * (y6 - y6 / (4 : Int32) * (4 : Int32)))) &&& 31)) &&& (255 : Int32))) 109 2) + (1 : Int32)))) A s H locs := hw
        refine lv_iinc (v := (y6 + 1)) (lv' := [(6, .int (y6 + 1)), (7, .int y1), (0, .ref (ad 109)), (1, .int y1), (2, .int y2), (3, .int y3), (4, .int y4), (5, .int y5)]) hx hb dX7_feed_114 hl (k := 7) rfl rfl (by decide) rfl (fun ls hl => ?_)
        refine lv_goto (tgt := 23) hx hb dX7_feed_117 (by decide) ?_
        exact ih (y1) (y2) (y3) (y4) (y5) ((y6 + 1)) hM hw (lv_sub hl [2, 3, 4, 5, 6, 7, 0] rfl)
theorem k_X7_feed : aCal RX7 yX7_feed cX7_feed 8 (some .int) 5 := ⟨wI_yX7_feed, wE_yX7_feed, wZ_X7, wC_yX7_feed, by decide +kernel⟩
set_option maxHeartbeats 4000000 in
set_option maxRecDepth 100000 in
theorem c_X7_feed (l : Launch) {x1 : Int32} {x2 : Int32} {x3 : Int32} {x4 : Int32} {x5 : Int32} {ι : iS} {res : Int32 × iS} (hM : m_X7_feed x1 x2 x3 x4 x5 ι = some res) : aM l yX7_feed cX7_feed 8 (some .int) rm_X7_feed (fun ad => [.ref (ad 109), .int x1, .int x2, .int x3, .int x4, .int x5]) (aG ι) (some (.int res.1)) (aG res.2) := by
  refine aM.of (by decide) (fun _ => Nat.le_of_ble_eq_true rfl) ?_
  intro p e s m args below meth c D dA ad adV A ls C hw hl
  have C : aX p m c cX7_feed 8 s args aTs RX7 meth (some .int) := C
  have hx := C.1.1
  have hb := C.1.2.1
  have hml := C.1.2.2.1
  have hown := C.1.2.2.2.1
  have hts := C.1.2.2.2.2
  have hl : lv_has ls 8 [(0, .ref (ad 109)), (1, .int x1), (2, .int x2), (3, .int x3), (4, .int x4), (5, .int x5)] := hl
  unfold m_X7_feed at hM
  refine lv_aload_n hx hb dX7_feed_0 rfl (lv_at hl 0 rfl) ?_
  refine lv_iconst (v := (0 : Int32)) hx hb dX7_feed_1 (by decide) ?_
  refine a_puti (ty := .int) (σ := aG ι) (o := 109) (T := TX7) (N := 20) (ty0 := tyX7) C wU_X7 tyX7_ok nmX7 hw rfl (by decide) rfl 0 (by decide) rfl wF_X7_42 rfl (by decide +kernel) rfl rfl dX7_feed_2 (fun H locs hw => ?_)
  have hw : aW D dA ad adV (aG (pI ι 109 0 (0 : Int32))) A s H locs := hw
  refine lv_aload_n hx hb dX7_feed_5 rfl (lv_at hl 0 rfl) ?_
  refine a_geti (σ := aG (pI ι 109 0 (0 : Int32))) (o := 109) (T := TX7) (N := 20) C wU_X7 hw rfl (by decide) rfl 2 (by decide) rfl wF_X7_45 dX7_feed_6 ?_
  refine lv_bipush (v := (20 : Int32)) hx hb dX7_feed_9 (by decide) ?_
  refine lv_iadd hx hb dX7_feed_11 ?_
  refine lv_sipush (v := (500 : Int32)) hx hb dX7_feed_12 (by decide) ?_
  refine lv_icmp_le (tgt := 20) hx hb dX7_feed_15 (by decide) (fun hc => ?_) (fun hc => ?_)
  · replace hM := h_t hc hM
    refine lv_iconst (v := (0 : Int32)) hx hb dX7_feed_20 (by decide) ?_
    refine lv_istore (lv' := [(6, .int (0 : Int32)), (0, .ref (ad 109)), (1, .int x1), (2, .int x2), (3, .int x3), (4, .int x4), (5, .int x5)]) hx hb dX7_feed_21 hl (by decide) rfl (fun ls hl => ?_)
    exact tl_X7_feed_23 l C aF (x1) (x2) (x3) (x4) (x5) ((0 : Int32)) hM hw (lv_sub hl [1, 2, 3, 4, 5, 6, 0] rfl)
  · replace hM := h_f hc hM
    refine lv_iconst (v := (-1 : Int32)) hx hb dX7_feed_18 (by decide) ?_
    cases h_e hM
    exact a_iret C hw dX7_feed_19
def rm_X7_copies : Room := { frames := 0, cells := 0, slots := 0, locals := 0 }
set_option maxHeartbeats 4000000 in
set_option maxRecDepth 100000 in
theorem tl_X7_copies_2 (l : Launch) {p : Program} {e : Env} {s : State} {m : MethodId} {args : Array Value} {below : List Frame} {meth : Method} {c : Code} {D : va_G} {dA : Nat → ClassId} {ad adV : Nat → Nat} {A : Nat → Prop} (C : aX p m c cX7_copies 3 s args aTs RX7 meth none) {x1 : Nat} {x2 : Nat} (hx1 : aKd[x1]? = some (9, 883)) (hx2 : aKd[x2]? = some (9, 883)) {res : iS} : ∀ (n : Nat) (y2 : Int32) {ι : iS}, l_X7_copies_2 x1 x2 n y2 ι = some res → ∀ {H : Heap} {locs : List Loc} {ls : Array Slot}, aW D dA ad adV (aG ι) A s H locs → lv_has ls 3 [(0, .ref (ad x1)), (1, .ref (ad x2)), (2, .int y2)] → W p l e rm_X7_copies s m args below meth c H locs 0 0 (MQ below (aQ D dA ad (aG res) A none) args s 0 0 A) (F0 m 2 ls []) := by
  have hx := C.1.1
  have hb := C.1.2.1
  have hml := C.1.2.2.1
  have hown := C.1.2.2.2.1
  have hts := C.1.2.2.2.2
  intro n
  induction n with
  | zero => intro y2 ι hM; simp [l_X7_copies_2] at hM
  | succ n ih =>
    intro y2 ι hM H locs ls hw hl
    rw [l_X7_copies_2] at hM
    refine lv_iload_n hx hb dX7_copies_2 rfl (lv_at hl 2 rfl) ?_
    refine lv_sipush (v := (883 : Int32)) hx hb dX7_copies_3 (by decide) ?_
    refine lv_icmp_ge (tgt := 21) hx hb dX7_copies_6 (by decide) (fun hc => ?_) (fun hc => ?_)
    · replace hM := h_t hc hM
      cases h_e hM
      exact a_vret C hw dX7_copies_21
    · replace hM := h_f hc hM
      refine lv_aload_n hx hb dX7_copies_9 rfl (lv_at hl 1 rfl) ?_
      refine lv_iload_n hx hb dX7_copies_10 rfl (lv_at hl 2 rfl) ?_
      refine lv_aload_n hx hb dX7_copies_11 rfl (lv_at hl 0 rfl) ?_
      refine lv_iload_n hx hb dX7_copies_12 rfl (lv_at hl 2 rfl) ?_
      obtain ⟨hi, hM⟩ := h_i hM
      refine a_iald (σ := aG ι) (o := x1) C hw hx1 hi rfl dX7_copies_13 ?_
      obtain ⟨hi, hM⟩ := h_i hM
      refine a_iast (σ := aG ι) (o := x2) C hw hx2 hi rfl dX7_copies_14 (fun H locs hw => ?_)
      have hw : aW D dA ad adV (aG (pI ι x2 y2.toNatClampNeg (gI ι x1 y2.toNatClampNeg))) A s H locs := hw
      refine lv_iinc (v := (y2 + 1)) (lv' := [(2, .int (y2 + 1)), (0, .ref (ad x1)), (1, .ref (ad x2))]) hx hb dX7_copies_15 hl (k := 2) rfl rfl (by decide) rfl (fun ls hl => ?_)
      refine lv_goto (tgt := 2) hx hb dX7_copies_18 (by decide) ?_
      exact ih ((y2 + 1)) hM hw (lv_sub hl [1, 2, 0] rfl)
theorem k_X7_copies : aCalS yX7_copies cX7_copies 3 none 2 := ⟨wS_yX7_copies, wZ_X7, wC_yX7_copies, by decide +kernel⟩
set_option maxHeartbeats 4000000 in
set_option maxRecDepth 100000 in
theorem c_X7_copies (l : Launch) {x1 : Nat} {x2 : Nat} (hx1 : aKd[x1]? = some (9, 883)) (hx2 : aKd[x2]? = some (9, 883)) {ι : iS} {res : iS} (hM : m_X7_copies x1 x2 ι = some res) : aM l yX7_copies cX7_copies 3 none rm_X7_copies (fun ad => [.ref (ad x1), .ref (ad x2)]) (aG ι) none (aG res) := by
  refine aM.of (by decide) (fun _ => Nat.le_of_ble_eq_true rfl) ?_
  intro p e s m args below meth c D dA ad adV A ls C hw hl
  have C : aX p m c cX7_copies 3 s args aTs RX7 meth none := C
  have hx := C.1.1
  have hb := C.1.2.1
  have hml := C.1.2.2.1
  have hown := C.1.2.2.2.1
  have hts := C.1.2.2.2.2
  have hl : lv_has ls 3 [(0, .ref (ad x1)), (1, .ref (ad x2))] := hl
  unfold m_X7_copies at hM
  refine lv_iconst (v := (0 : Int32)) hx hb dX7_copies_0 (by decide) ?_
  refine lv_istore_n (lv' := [(2, .int (0 : Int32)), (0, .ref (ad x1)), (1, .ref (ad x2))]) hx hb dX7_copies_1 rfl hl (by decide) rfl (fun ls hl => ?_)
  exact tl_X7_copies_2 l C hx1 hx2 aF ((0 : Int32)) hM hw (lv_sub hl [1, 2, 0] rfl)
def rm_X7_byteAt : Room := { frames := 0, cells := 0, slots := 0, locals := 0 }
theorem k_X7_byteAt : aCal RX7 yX7_byteAt cX7_byteAt 2 (some .int) 1 := ⟨wI_yX7_byteAt, wE_yX7_byteAt, wZ_X7, wC_yX7_byteAt, by decide +kernel⟩
set_option maxHeartbeats 4000000 in
set_option maxRecDepth 100000 in
theorem c_X7_byteAt (l : Launch) {x1 : Int32} {ι : iS} {res : Int32 × iS} (hM : m_X7_byteAt x1 ι = some res) : aM l yX7_byteAt cX7_byteAt 2 (some .int) rm_X7_byteAt (fun ad => [.ref (ad 109), .int x1]) (aG ι) (some (.int res.1)) (aG res.2) := by
  refine aM.of (by decide) (fun _ => Nat.le_of_ble_eq_true rfl) ?_
  intro p e s m args below meth c D dA ad adV A ls C hw hl
  have C : aX p m c cX7_byteAt 2 s args aTs RX7 meth (some .int) := C
  have hx := C.1.1
  have hb := C.1.2.1
  have hml := C.1.2.2.1
  have hown := C.1.2.2.2.1
  have hts := C.1.2.2.2.2
  have hl : lv_has ls 2 [(0, .ref (ad 109)), (1, .int x1)] := hl
  unfold m_X7_byteAt at hM
  refine lv_iload_n hx hb dX7_byteAt_0 rfl (lv_at hl 1 rfl) ?_
  refine lv_aload_n hx hb dX7_byteAt_1 rfl (lv_at hl 0 rfl) ?_
  refine a_geti (σ := aG ι) (o := 109) (T := TX7) (N := 20) C wU_X7 hw rfl (by decide) rfl 3 (by decide) rfl wF_X7_48 dX7_byteAt_2 ?_
  refine lv_icmp_lt (tgt := 12) hx hb dX7_byteAt_5 (by decide) (fun hc => ?_) (fun hc => ?_)
  · replace hM := h_t hc hM
    refine lv_aload_n hx hb dX7_byteAt_12 rfl (lv_at hl 0 rfl) ?_
    refine a_getp (q := 111) (σ := aG ι) (o := 109) (T := TX7) (N := 20) C wU_X7 hw rfl (by decide) rfl 8 (by decide) rfl wF_X7_17 (aG_P rfl rfl) dX7_byteAt_13 ?_
    refine lv_iload_n hx hb dX7_byteAt_16 rfl (lv_at hl 1 rfl) ?_
    obtain ⟨hi, hM⟩ := h_i hM
    refine a_iald (σ := aG ι) (o := 111) C hw rfl hi rfl dX7_byteAt_17 ?_
    cases h_e hM
    exact a_iret C hw dX7_byteAt_18
  · replace hM := h_f hc hM
    refine lv_iconst (v := (-1 : Int32)) hx hb dX7_byteAt_8 (by decide) ?_
    refine lv_goto (tgt := 18) hx hb dX7_byteAt_9 (by decide) ?_
    cases h_e hM
    exact a_iret C hw dX7_byteAt_18
def rm_X7_here : Room := { frames := 1, cells := 0, slots := 0, locals := 21 }
set_option maxHeartbeats 4000000 in
set_option maxRecDepth 100000 in
theorem tl_X7_here_0 (l : Launch) {p : Program} {e : Env} {s : State} {m : MethodId} {args : Array Value} {below : List Frame} {meth : Method} {c : Code} {D : va_G} {dA : Nat → ClassId} {ad adV : Nat → Nat} {A : Nat → Prop} (C : aX p m c cX7_here 1 s args aTs RX7 meth (some .int)) {res : Int32 × iS} : ∀ (n : Nat) {ι : iS}, l_X7_here_0 n ι = some res → ∀ {H : Heap} {locs : List Loc} {ls : Array Slot}, aW D dA ad adV (aG ι) A s H locs → lv_has ls 1 [(0, .ref (ad 109))] → W p l e rm_X7_here s m args below meth c H locs 0 0 (MQ below (aQ D dA ad (aG res.2) A (some (.int res.1))) args s 0 0 A) (F0 m 0 ls []) := by
  have hx := C.1.1
  have hb := C.1.2.1
  have hml := C.1.2.2.1
  have hown := C.1.2.2.2.1
  have hts := C.1.2.2.2.2
  intro n
  induction n with
  | zero => intro ι hM; simp [l_X7_here_0] at hM
  | succ n ih =>
    intro ι hM H locs ls hw hl
    rw [l_X7_here_0] at hM
    refine lv_aload_n hx hb dX7_here_0 rfl (lv_at hl 0 rfl) ?_
    refine lv_aload_n hx hb dX7_here_1 rfl (lv_at hl 0 rfl) ?_
    refine a_geti (σ := aG ι) (o := 109) (T := TX7) (N := 20) C wU_X7 hw rfl (by decide) rfl 4 (by decide) rfl wF_X7_51 dX7_here_2 ?_
    obtain ⟨r5, hr5, hM⟩ := h_b hM
    refine a_callV (σ' := aG r5.2) (v := (some (.int r5.1))) (As := fun ad => [.int (gI ι 109 4)]) (rest := []) (o := 109) C hw (c_X7_byteAt l hr5) k_X7_byteAt wM_X7_54 ⟨⟨rfl, rfl⟩, ⟨Nat.le_of_ble_eq_true rfl, Nat.le_of_ble_eq_true rfl⟩⟩ rfl (by decide) rfl rfl rfl hl rfl (Nat.le_of_ble_eq_true rfl) dX7_here_5 ⟨Nat.zero_le _, Nat.zero_le _⟩ (fun H locs hw => ?_)
    refine lv_bipush (v := (32 : Int32)) hx hb dX7_here_8 (by decide) ?_
    refine lv_icmp_ne (tgt := 26) hx hb dX7_here_10 (by decide) (fun hc => ?_) (fun hc => ?_)
    · replace hM := h_f hc hM
      refine lv_aload_n hx hb dX7_here_26 rfl (lv_at hl 0 rfl) ?_
      refine lv_aload_n hx hb dX7_here_27 rfl (lv_at hl 0 rfl) ?_
      refine a_geti (σ := aG r5.2) (o := 109) (T := TX7) (N := 20) C wU_X7 hw rfl (by decide) rfl 4 (by decide) rfl wF_X7_51 dX7_here_28 ?_
      obtain ⟨r31, hr31, hM⟩ := h_b hM
      refine a_callV (σ' := aG r31.2) (v := (some (.int r31.1))) (As := fun ad => [.int (gI r5.2 109 4)]) (rest := []) (o := 109) C hw (c_X7_byteAt l hr31) k_X7_byteAt wM_X7_54 ⟨⟨rfl, rfl⟩, ⟨Nat.le_of_ble_eq_true rfl, Nat.le_of_ble_eq_true rfl⟩⟩ rfl (by decide) rfl rfl rfl hl rfl (Nat.le_of_ble_eq_true rfl) dX7_here_31 ⟨Nat.zero_le _, Nat.zero_le _⟩ (fun H locs hw => ?_)
      cases h_e hM
      exact a_iret C hw dX7_here_34
    · replace hM := h_t hc hM
      refine lv_aload_n hx hb dX7_here_13 rfl (lv_at hl 0 rfl) ?_
      refine lv_dup hx hb dX7_here_14 rfl ?_
      refine a_geti (σ := aG r5.2) (o := 109) (T := TX7) (N := 20) C wU_X7 hw rfl (by decide) rfl 4 (by decide) rfl wF_X7_51 dX7_here_15 ?_
      refine lv_iconst (v := (1 : Int32)) hx hb dX7_here_18 (by decide) ?_
      refine lv_iadd hx hb dX7_here_19 ?_
      refine a_puti (ty := .int) (σ := aG r5.2) (o := 109) (T := TX7) (N := 20) (ty0 := tyX7) C wU_X7 tyX7_ok nmX7 hw rfl (by decide) rfl 4 (by decide) rfl wF_X7_51 rfl (by decide +kernel) rfl rfl dX7_here_20 (fun H locs hw => ?_)
      have hw : aW D dA ad adV (aG (pI r5.2 109 4 ((gI r5.2 109 4) + (1 : Int32)))) A s H locs := hw
      refine lv_goto (tgt := 0) hx hb dX7_here_23 (by decide) ?_
      exact ih hM hw (lv_sub hl [0] rfl)
theorem k_X7_here : aCal RX7 yX7_here cX7_here 1 (some .int) 0 := ⟨wI_yX7_here, wE_yX7_here, wZ_X7, wC_yX7_here, by decide +kernel⟩
set_option maxHeartbeats 4000000 in
set_option maxRecDepth 100000 in
theorem c_X7_here (l : Launch) {ι : iS} {res : Int32 × iS} (hM : m_X7_here ι = some res) : aM l yX7_here cX7_here 1 (some .int) rm_X7_here (fun ad => [.ref (ad 109)]) (aG ι) (some (.int res.1)) (aG res.2) := by
  refine aM.of (by decide) (fun _ => Nat.le_of_ble_eq_true rfl) ?_
  intro p e s m args below meth c D dA ad adV A ls C hw hl
  have C : aX p m c cX7_here 1 s args aTs RX7 meth (some .int) := C
  have hx := C.1.1
  have hb := C.1.2.1
  have hml := C.1.2.2.1
  have hown := C.1.2.2.2.1
  have hts := C.1.2.2.2.2
  have hl : lv_has ls 1 [(0, .ref (ad 109))] := hl
  unfold m_X7_here at hM
  exact tl_X7_here_0 l C aF hM hw (lv_sub hl [0] rfl)
def rm_X7_fine : Room := { frames := 0, cells := 0, slots := 0, locals := 0 }
theorem k_X7_fine : aCal RX7 yX7_fine cX7_fine 1 (some .boolean) 0 := ⟨wI_yX7_fine, wE_yX7_fine, wZ_X7, wC_yX7_fine, by decide +kernel⟩
set_option maxHeartbeats 4000000 in
set_option maxRecDepth 100000 in
theorem c_X7_fine (l : Launch) {ι : iS} {res : Int32 × iS} (hM : m_X7_fine ι = some res) : aM l yX7_fine cX7_fine 1 (some .boolean) rm_X7_fine (fun ad => [.ref (ad 109)]) (aG ι) (some (.int res.1)) (aG res.2) := by
  refine aM.of (by decide) (fun _ => Nat.le_of_ble_eq_true rfl) ?_
  intro p e s m args below meth c D dA ad adV A ls C hw hl
  have C : aX p m c cX7_fine 1 s args aTs RX7 meth (some .boolean) := C
  have hx := C.1.1
  have hb := C.1.2.1
  have hml := C.1.2.2.1
  have hown := C.1.2.2.2.1
  have hts := C.1.2.2.2.2
  have hl : lv_has ls 1 [(0, .ref (ad 109))] := hl
  unfold m_X7_fine at hM
  refine lv_aload_n hx hb dX7_fine_0 rfl (lv_at hl 0 rfl) ?_
  refine a_geti (σ := aG ι) (o := 109) (T := TX7) (N := 20) C wU_X7 hw rfl (by decide) rfl 6 (by decide) rfl wF_X7_58 dX7_fine_1 ?_
  refine lv_if_ne (tgt := 11) hx hb dX7_fine_4 (by decide) (fun hc => ?_) (fun hc => ?_)
  · replace hM := h_f hc hM
    refine lv_iconst (v := (0 : Int32)) hx hb dX7_fine_11 (by decide) ?_
    cases h_e hM
    exact a_zret C (zn (v := 0) (Or.inl rfl)) hw dX7_fine_12
  · replace hM := h_t hc hM
    refine lv_iconst (v := (1 : Int32)) hx hb dX7_fine_7 (by decide) ?_
    refine lv_goto (tgt := 12) hx hb dX7_fine_8 (by decide) ?_
    cases h_e hM
    exact a_zret C (zn (v := 1) (Or.inr rfl)) hw dX7_fine_12
def rm_X7_wrong : Room := { frames := 0, cells := 0, slots := 0, locals := 0 }
theorem k_X7_wrong : aCal RX7 yX7_wrong cX7_wrong 3 none 2 := ⟨wI_yX7_wrong, wE_yX7_wrong, wZ_X7, wC_yX7_wrong, by decide +kernel⟩
set_option maxHeartbeats 4000000 in
set_option maxRecDepth 100000 in
theorem c_X7_wrong (l : Launch) {x1 : Int32} {x2 : Int32} {ι : iS} {res : iS} (hM : m_X7_wrong x1 x2 ι = some res) : aM l yX7_wrong cX7_wrong 3 none rm_X7_wrong (fun ad => [.ref (ad 109), .int x1, .int x2]) (aG ι) none (aG res) := by
  refine aM.of (by decide) (fun _ => Nat.le_of_ble_eq_true rfl) ?_
  intro p e s m args below meth c D dA ad adV A ls C hw hl
  have C : aX p m c cX7_wrong 3 s args aTs RX7 meth none := C
  have hx := C.1.1
  have hb := C.1.2.1
  have hml := C.1.2.2.1
  have hown := C.1.2.2.2.1
  have hts := C.1.2.2.2.2
  have hl : lv_has ls 3 [(0, .ref (ad 109)), (1, .int x1), (2, .int x2)] := hl
  unfold m_X7_wrong at hM
  refine lv_aload_n hx hb dX7_wrong_0 rfl (lv_at hl 0 rfl) ?_
  refine a_geti (σ := aG ι) (o := 109) (T := TX7) (N := 20) C wU_X7 hw rfl (by decide) rfl 6 (by decide) rfl wF_X7_58 dX7_wrong_1 ?_
  refine lv_if_ne (tgt := 17) hx hb dX7_wrong_4 (by decide) (fun hc => ?_) (fun hc => ?_)
  · replace hM := h_f hc hM
    cases h_e hM
    exact a_vret C hw dX7_wrong_17
  · replace hM := h_t hc hM
    refine lv_aload_n hx hb dX7_wrong_7 rfl (lv_at hl 0 rfl) ?_
    refine lv_iload_n hx hb dX7_wrong_8 rfl (lv_at hl 1 rfl) ?_
    refine a_puti (ty := .int) (σ := aG ι) (o := 109) (T := TX7) (N := 20) (ty0 := tyX7) C wU_X7 tyX7_ok nmX7 hw rfl (by decide) rfl 6 (by decide) rfl wF_X7_58 rfl (by decide +kernel) rfl rfl dX7_wrong_9 (fun H locs hw => ?_)
    have hw : aW D dA ad adV (aG (pI ι 109 6 x1)) A s H locs := hw
    refine lv_aload_n hx hb dX7_wrong_12 rfl (lv_at hl 0 rfl) ?_
    refine lv_iload_n hx hb dX7_wrong_13 rfl (lv_at hl 2 rfl) ?_
    refine a_puti (ty := .int) (σ := aG (pI ι 109 6 x1)) (o := 109) (T := TX7) (N := 20) (ty0 := tyX7) C wU_X7 tyX7_ok nmX7 hw rfl (by decide) rfl 7 (by decide) rfl wF_X7_61 rfl (by decide +kernel) rfl rfl dX7_wrong_14 (fun H locs hw => ?_)
    have hw : aW D dA ad adV (aG (pI (pI ι 109 6 x1) 109 7 x2)) A s H locs := hw
    cases h_e hM
    exact a_vret C hw dX7_wrong_17
def rm_X7_isDigit : Room := { frames := 0, cells := 0, slots := 0, locals := 0 }
theorem k_X7_isDigit : aCalS yX7_isDigit cX7_isDigit 1 (some .boolean) 1 := ⟨wS_yX7_isDigit, wZ_X7, wC_yX7_isDigit, by decide +kernel⟩
set_option maxHeartbeats 4000000 in
set_option maxRecDepth 100000 in
theorem c_X7_isDigit (l : Launch) {x1 : Int32} {ι : iS} {res : Int32 × iS} (hM : m_X7_isDigit x1 ι = some res) : aM l yX7_isDigit cX7_isDigit 1 (some .boolean) rm_X7_isDigit (fun ad => [.int x1]) (aG ι) (some (.int res.1)) (aG res.2) := by
  refine aM.of (by decide) (fun _ => Nat.le_of_ble_eq_true rfl) ?_
  intro p e s m args below meth c D dA ad adV A ls C hw hl
  have C : aX p m c cX7_isDigit 1 s args aTs RX7 meth (some .boolean) := C
  have hx := C.1.1
  have hb := C.1.2.1
  have hml := C.1.2.2.1
  have hown := C.1.2.2.2.1
  have hts := C.1.2.2.2.2
  have hl : lv_has ls 1 [(0, .int x1)] := hl
  unfold m_X7_isDigit at hM
  refine lv_iload_n hx hb dX7_isDigit_0 rfl (lv_at hl 0 rfl) ?_
  refine lv_bipush (v := (48 : Int32)) hx hb dX7_isDigit_1 (by decide) ?_
  refine lv_icmp_lt (tgt := 16) hx hb dX7_isDigit_3 (by decide) (fun hc => ?_) (fun hc => ?_)
  · replace hM := h_t hc hM
    refine lv_iconst (v := (0 : Int32)) hx hb dX7_isDigit_16 (by decide) ?_
    cases h_e hM
    exact a_zret C (zn (v := 0) (Or.inl rfl)) hw dX7_isDigit_17
  · replace hM := h_f hc hM
    refine lv_iload_n hx hb dX7_isDigit_6 rfl (lv_at hl 0 rfl) ?_
    refine lv_bipush (v := (57 : Int32)) hx hb dX7_isDigit_7 (by decide) ?_
    refine lv_icmp_gt (tgt := 16) hx hb dX7_isDigit_9 (by decide) (fun hc => ?_) (fun hc => ?_)
    · replace hM := h_t hc hM
      refine lv_iconst (v := (0 : Int32)) hx hb dX7_isDigit_16 (by decide) ?_
      cases h_e hM
      exact a_zret C (zn (v := 0) (Or.inl rfl)) hw dX7_isDigit_17
    · replace hM := h_f hc hM
      refine lv_iconst (v := (1 : Int32)) hx hb dX7_isDigit_12 (by decide) ?_
      refine lv_goto (tgt := 17) hx hb dX7_isDigit_13 (by decide) ?_
      cases h_e hM
      exact a_zret C (zn (v := 1) (Or.inr rfl)) hw dX7_isDigit_17
def rm_X7_must : Room := { frames := 2, cells := 0, slots := 0, locals := 41 }
theorem k_X7_must : aCal RX7 yX7_must cX7_must 2 none 1 := ⟨wI_yX7_must, wE_yX7_must, wZ_X7, wC_yX7_must, by decide +kernel⟩
set_option maxHeartbeats 4000000 in
set_option maxRecDepth 100000 in
theorem c_X7_must (l : Launch) {x1 : Int32} {ι : iS} {res : iS} (hM : m_X7_must x1 ι = some res) : aM l yX7_must cX7_must 2 none rm_X7_must (fun ad => [.ref (ad 109), .int x1]) (aG ι) none (aG res) := by
  refine aM.of (by decide) (fun _ => Nat.le_of_ble_eq_true rfl) ?_
  intro p e s m args below meth c D dA ad adV A ls C hw hl
  have C : aX p m c cX7_must 2 s args aTs RX7 meth none := C
  have hx := C.1.1
  have hb := C.1.2.1
  have hml := C.1.2.2.1
  have hown := C.1.2.2.2.1
  have hts := C.1.2.2.2.2
  have hl : lv_has ls 2 [(0, .ref (ad 109)), (1, .int x1)] := hl
  unfold m_X7_must at hM
  refine lv_aload_n hx hb dX7_must_0 rfl (lv_at hl 0 rfl) ?_
  obtain ⟨r1, hr1, hM⟩ := h_b hM
  refine a_callV (σ' := aG r1.2) (v := (some (.int r1.1))) (As := fun ad => []) (rest := []) (o := 109) C hw (c_X7_fine l hr1) k_X7_fine wM_X7_64 ⟨⟨rfl, rfl⟩, ⟨Nat.le_of_ble_eq_true rfl, Nat.le_of_ble_eq_true rfl⟩⟩ rfl (by decide) rfl rfl rfl hl rfl (Nat.le_of_ble_eq_true rfl) dX7_must_1 ⟨Nat.zero_le _, Nat.zero_le _⟩ (fun H locs hw => ?_)
  refine lv_if_ne (tgt := 8) hx hb dX7_must_4 (by decide) (fun hc => ?_) (fun hc => ?_)
  · replace hM := h_f hc hM
    refine lv_aload_n hx hb dX7_must_8 rfl (lv_at hl 0 rfl) ?_
    obtain ⟨r9, hr9, hM⟩ := h_b hM
    refine a_callV (σ' := aG r9.2) (v := (some (.int r9.1))) (As := fun ad => []) (rest := []) (o := 109) C hw (c_X7_here l hr9) k_X7_here wM_X7_68 ⟨⟨rfl, rfl⟩, ⟨Nat.le_of_ble_eq_true rfl, Nat.le_of_ble_eq_true rfl⟩⟩ rfl (by decide) rfl rfl rfl hl rfl (Nat.le_of_ble_eq_true rfl) dX7_must_9 ⟨Nat.zero_le _, Nat.zero_le _⟩ (fun H locs hw => ?_)
    refine lv_iload_n hx hb dX7_must_12 rfl (lv_at hl 1 rfl) ?_
    refine lv_icmp_ne (tgt := 29) hx hb dX7_must_13 (by decide) (fun hc => ?_) (fun hc => ?_)
    · replace hM := h_f hc hM
      refine lv_aload_n hx hb dX7_must_29 rfl (lv_at hl 0 rfl) ?_
      refine lv_iconst (v := (1 : Int32)) hx hb dX7_must_30 (by decide) ?_
      refine lv_aload_n hx hb dX7_must_31 rfl (lv_at hl 0 rfl) ?_
      refine a_geti (σ := aG r9.2) (o := 109) (T := TX7) (N := 20) C wU_X7 hw rfl (by decide) rfl 4 (by decide) rfl wF_X7_51 dX7_must_32 ?_
      obtain ⟨r35, hr35, hM⟩ := h_b hM
      refine a_callV (σ' := aG r35) (v := none) (As := fun ad => [.int (1 : Int32), .int (gI r9.2 109 4)]) (rest := []) (o := 109) C hw (c_X7_wrong l hr35) k_X7_wrong wM_X7_85 ⟨⟨rfl, rfl⟩, ⟨Nat.le_of_ble_eq_true rfl, Nat.le_of_ble_eq_true rfl⟩⟩ rfl (by decide) rfl rfl rfl hl rfl (Nat.le_of_ble_eq_true rfl) dX7_must_35 ⟨Nat.zero_le _, Nat.zero_le _⟩ (fun H locs hw => ?_)
      cases h_e hM
      exact a_vret C hw dX7_must_38
    · replace hM := h_t hc hM
      refine lv_aload_n hx hb dX7_must_16 rfl (lv_at hl 0 rfl) ?_
      refine lv_dup hx hb dX7_must_17 rfl ?_
      refine a_geti (σ := aG r9.2) (o := 109) (T := TX7) (N := 20) C wU_X7 hw rfl (by decide) rfl 4 (by decide) rfl wF_X7_51 dX7_must_18 ?_
      refine lv_iconst (v := (1 : Int32)) hx hb dX7_must_21 (by decide) ?_
      refine lv_iadd hx hb dX7_must_22 ?_
      refine a_puti (ty := .int) (σ := aG r9.2) (o := 109) (T := TX7) (N := 20) (ty0 := tyX7) C wU_X7 tyX7_ok nmX7 hw rfl (by decide) rfl 4 (by decide) rfl wF_X7_51 rfl (by decide +kernel) rfl rfl dX7_must_23 (fun H locs hw => ?_)
      have hw : aW D dA ad adV (aG (pI r9.2 109 4 ((gI r9.2 109 4) + (1 : Int32)))) A s H locs := hw
      refine lv_goto (tgt := 38) hx hb dX7_must_26 (by decide) ?_
      cases h_e hM
      exact a_vret C hw dX7_must_38
  · replace hM := h_t hc hM
    cases h_e hM
    exact a_vret C hw dX7_must_7
def rm_X7_number : Room := { frames := 2, cells := 0, slots := 0, locals := 41 }
set_option maxHeartbeats 4000000 in
set_option maxRecDepth 100000 in
theorem tl_X7_number_38 (l : Launch) {p : Program} {e : Env} {s : State} {m : MethodId} {args : Array Value} {below : List Frame} {meth : Method} {c : Code} {D : va_G} {dA : Nat → ClassId} {ad adV : Nat → Nat} {A : Nat → Prop} (C : aX p m c cX7_number 5 s args aTs RX7 meth (some .int)) {res : Int32 × iS} : ∀ (n : Nat) (y1 : Int32) (y2 : Int32) (y3 : Int32) (y4 : Int32) {ι : iS}, l_X7_number_38 n y1 y2 y3 y4 ι = some res → ∀ {H : Heap} {locs : List Loc} {ls : Array Slot}, aW D dA ad adV (aG ι) A s H locs → lv_has ls 5 [(0, .ref (ad 109)), (1, .int y1), (2, .int y2), (3, .int y3), (4, .int y4)] → W p l e rm_X7_number s m args below meth c H locs 0 0 (MQ below (aQ D dA ad (aG res.2) A (some (.int res.1))) args s 0 0 A) (F0 m 38 ls []) := by
  have hx := C.1.1
  have hb := C.1.2.1
  have hml := C.1.2.2.1
  have hown := C.1.2.2.2.1
  have hts := C.1.2.2.2.2
  intro n
  induction n with
  | zero => intro y1 y2 y3 y4 ι hM; simp [l_X7_number_38] at hM
  | succ n ih =>
    intro y1 y2 y3 y4 ι hM H locs ls hw hl
    rw [l_X7_number_38] at hM
    refine lv_aload_n hx hb dX7_number_38 rfl (lv_at hl 0 rfl) ?_
    refine lv_aload_n hx hb dX7_number_39 rfl (lv_at hl 0 rfl) ?_
    refine a_geti (σ := aG ι) (o := 109) (T := TX7) (N := 20) C wU_X7 hw rfl (by decide) rfl 4 (by decide) rfl wF_X7_51 dX7_number_40 ?_
    obtain ⟨r43, hr43, hM⟩ := h_b hM
    refine a_callV (σ' := aG r43.2) (v := (some (.int r43.1))) (As := fun ad => [.int (gI ι 109 4)]) (rest := []) (o := 109) C hw (c_X7_byteAt l hr43) k_X7_byteAt wM_X7_54 ⟨⟨rfl, rfl⟩, ⟨Nat.le_of_ble_eq_true rfl, Nat.le_of_ble_eq_true rfl⟩⟩ rfl (by decide) rfl rfl rfl hl rfl (Nat.le_of_ble_eq_true rfl) dX7_number_43 ⟨Nat.zero_le _, Nat.zero_le _⟩ (fun H locs hw => ?_)
    obtain ⟨r46, hr46, hM⟩ := h_b hM
    refine a_callS  (σ' := aG r46.2) (v := (some (.int r46.1))) (as := fun ad => [.int r43.1]) (rest := []) C hw (c_X7_isDigit l hr46) k_X7_isDigit wM_X7_89 ⟨⟨rfl, rfl⟩, ⟨Nat.le_of_ble_eq_true rfl, Nat.le_of_ble_eq_true rfl⟩⟩ rfl hl rfl (Nat.le_of_ble_eq_true rfl) dX7_number_46 ⟨Nat.zero_le _, Nat.zero_le _⟩ (fun H locs hw => ?_)
    refine lv_if_eq (tgt := 89) hx hb dX7_number_49 (by decide) (fun hc => ?_) (fun hc => ?_)
    · replace hM := h_t hc hM
      refine lv_iload hx hb dX7_number_89 (lv_at hl 4 rfl) ?_
      refine lv_iload_n hx hb dX7_number_91 rfl (lv_at hl 1 rfl) ?_
      refine lv_iload_n hx hb dX7_number_92 rfl (lv_at hl 2 rfl) ?_
      obtain ⟨r93, hr93, hM⟩ := h_b hM
      refine a_callS  (σ' := aG r93.2) (v := (some (.int r93.1))) (as := fun ad => [.int y4, .int y1, .int y2]) (rest := []) C hw (c_X7_in l hr93) k_X7_in wM_X7_81 ⟨⟨rfl, rfl⟩, ⟨Nat.le_of_ble_eq_true rfl, Nat.le_of_ble_eq_true rfl⟩⟩ rfl hl rfl (Nat.le_of_ble_eq_true rfl) dX7_number_93 ⟨Nat.zero_le _, Nat.zero_le _⟩ (fun H locs hw => ?_)
      refine lv_if_ne (tgt := 105) hx hb dX7_number_96 (by decide) (fun hc => ?_) (fun hc => ?_)
      · replace hM := h_f hc hM
        refine lv_iload hx hb dX7_number_105 (lv_at hl 4 rfl) ?_
        cases h_e hM
        exact a_iret C hw dX7_number_107
      · replace hM := h_t hc hM
        refine lv_aload_n hx hb dX7_number_99 rfl (lv_at hl 0 rfl) ?_
        refine lv_iconst (v := (2 : Int32)) hx hb dX7_number_100 (by decide) ?_
        refine lv_iload_n hx hb dX7_number_101 rfl (lv_at hl 3 rfl) ?_
        obtain ⟨r102, hr102, hM⟩ := h_b hM
        refine a_callV (σ' := aG r102) (v := none) (As := fun ad => [.int (2 : Int32), .int y3]) (rest := []) (o := 109) C hw (c_X7_wrong l hr102) k_X7_wrong wM_X7_85 ⟨⟨rfl, rfl⟩, ⟨Nat.le_of_ble_eq_true rfl, Nat.le_of_ble_eq_true rfl⟩⟩ rfl (by decide) rfl rfl rfl hl rfl (Nat.le_of_ble_eq_true rfl) dX7_number_102 ⟨Nat.zero_le _, Nat.zero_le _⟩ (fun H locs hw => ?_)
        refine lv_iload hx hb dX7_number_105 (lv_at hl 4 rfl) ?_
        cases h_e hM
        exact a_iret C hw dX7_number_107
    · replace hM := h_f hc hM
      refine lv_ldc (v := (100000 : Int32)) hx hb hown (hts _ wQ_X7_93) dX7_number_52 ?_
      refine lv_bipush (v := (10 : Int32)) hx hb dX7_number_54 (by decide) ?_
      refine lv_iload hx hb dX7_number_56 (lv_at hl 4 rfl) ?_
      refine lv_imul hx hb dX7_number_58 ?_
      refine lv_aload_n hx hb dX7_number_59 rfl (lv_at hl 0 rfl) ?_
      refine lv_aload_n hx hb dX7_number_60 rfl (lv_at hl 0 rfl) ?_
      refine a_geti (σ := aG r46.2) (o := 109) (T := TX7) (N := 20) C wU_X7 hw rfl (by decide) rfl 4 (by decide) rfl wF_X7_51 dX7_number_61 ?_
      obtain ⟨r64, hr64, hM⟩ := h_b hM
      refine a_callV (σ' := aG r64.2) (v := (some (.int r64.1))) (As := fun ad => [.int (gI r46.2 109 4)]) (rest := [.int ((10 : Int32) * y4), .int (100000 : Int32)]) (o := 109) C hw (c_X7_byteAt l hr64) k_X7_byteAt wM_X7_54 ⟨⟨rfl, rfl⟩, ⟨Nat.le_of_ble_eq_true rfl, Nat.le_of_ble_eq_true rfl⟩⟩ rfl (by decide) rfl rfl rfl hl rfl (Nat.le_of_ble_eq_true rfl) dX7_number_64 ⟨Nat.zero_le _, Nat.zero_le _⟩ (fun H locs hw => ?_)
      refine lv_iadd hx hb dX7_number_67 ?_
      refine lv_bipush (v := (48 : Int32)) hx hb dX7_number_68 (by decide) ?_
      refine lv_isub hx hb dX7_number_70 ?_
      obtain ⟨r71, hr71, hM⟩ := h_b hM
      refine a_callS  (σ' := aG r71.2) (v := (some (.int r71.1))) (as := fun ad => [.int (100000 : Int32), .int ((((10 : Int32) * y4) + r64.1) - (48 : Int32))]) (rest := []) C hw (c_X7_less l hr71) k_X7_less wM_X7_94 ⟨⟨rfl, rfl⟩, ⟨Nat.le_of_ble_eq_true rfl, Nat.le_of_ble_eq_true rfl⟩⟩ rfl hl rfl (Nat.le_of_ble_eq_true rfl) dX7_number_71 ⟨Nat.zero_le _, Nat.zero_le _⟩ (fun H locs hw => ?_)
      refine lv_istore (lv' := [(4, .int r71.1), (0, .ref (ad 109)), (1, .int y1), (2, .int y2), (3, .int y3)]) hx hb dX7_number_74 hl (by decide) rfl (fun ls hl => ?_)
      refine lv_aload_n hx hb dX7_number_76 rfl (lv_at hl 1 rfl) ?_
      refine lv_dup hx hb dX7_number_77 rfl ?_
      refine a_geti (σ := aG r71.2) (o := 109) (T := TX7) (N := 20) C wU_X7 hw rfl (by decide) rfl 4 (by decide) rfl wF_X7_51 dX7_number_78 ?_
      refine lv_iconst (v := (1 : Int32)) hx hb dX7_number_81 (by decide) ?_
      refine lv_iadd hx hb dX7_number_82 ?_
      refine a_puti (ty := .int) (σ := aG r71.2) (o := 109) (T := TX7) (N := 20) (ty0 := tyX7) C wU_X7 tyX7_ok nmX7 hw rfl (by decide) rfl 4 (by decide) rfl wF_X7_51 rfl (by decide +kernel) rfl rfl dX7_number_83 (fun H locs hw => ?_)
      have hw : aW D dA ad adV (aG (pI r71.2 109 4 ((gI r71.2 109 4) + (1 : Int32)))) A s H locs := hw
      refine lv_goto (tgt := 38) hx hb dX7_number_86 (by decide) ?_
      exact ih (y1) (y2) (y3) (r71.1) hM hw (lv_sub hl [1, 2, 3, 4, 0] rfl)
theorem k_X7_number : aCal RX7 yX7_number cX7_number 5 (some .int) 2 := ⟨wI_yX7_number, wE_yX7_number, wZ_X7, wC_yX7_number, by decide +kernel⟩
set_option maxHeartbeats 4000000 in
set_option maxRecDepth 100000 in
theorem c_X7_number (l : Launch) {x1 : Int32} {x2 : Int32} {ι : iS} {res : Int32 × iS} (hM : m_X7_number x1 x2 ι = some res) : aM l yX7_number cX7_number 5 (some .int) rm_X7_number (fun ad => [.ref (ad 109), .int x1, .int x2]) (aG ι) (some (.int res.1)) (aG res.2) := by
  refine aM.of (by decide) (fun _ => Nat.le_of_ble_eq_true rfl) ?_
  intro p e s m args below meth c D dA ad adV A ls C hw hl
  have C : aX p m c cX7_number 5 s args aTs RX7 meth (some .int) := C
  have hx := C.1.1
  have hb := C.1.2.1
  have hml := C.1.2.2.1
  have hown := C.1.2.2.2.1
  have hts := C.1.2.2.2.2
  have hl : lv_has ls 5 [(0, .ref (ad 109)), (1, .int x1), (2, .int x2)] := hl
  unfold m_X7_number at hM
  refine lv_aload_n hx hb dX7_number_0 rfl (lv_at hl 0 rfl) ?_
  obtain ⟨r1, hr1, hM⟩ := h_b hM
  refine a_callV (σ' := aG r1.2) (v := (some (.int r1.1))) (As := fun ad => []) (rest := []) (o := 109) C hw (c_X7_fine l hr1) k_X7_fine wM_X7_64 ⟨⟨rfl, rfl⟩, ⟨Nat.le_of_ble_eq_true rfl, Nat.le_of_ble_eq_true rfl⟩⟩ rfl (by decide) rfl rfl rfl hl rfl (Nat.le_of_ble_eq_true rfl) dX7_number_1 ⟨Nat.zero_le _, Nat.zero_le _⟩ (fun H locs hw => ?_)
  refine lv_if_ne (tgt := 9) hx hb dX7_number_4 (by decide) (fun hc => ?_) (fun hc => ?_)
  · replace hM := h_f hc hM
    refine lv_aload_n hx hb dX7_number_9 rfl (lv_at hl 0 rfl) ?_
    obtain ⟨r10, hr10, hM⟩ := h_b hM
    refine a_callV (σ' := aG r10.2) (v := (some (.int r10.1))) (As := fun ad => []) (rest := []) (o := 109) C hw (c_X7_here l hr10) k_X7_here wM_X7_68 ⟨⟨rfl, rfl⟩, ⟨Nat.le_of_ble_eq_true rfl, Nat.le_of_ble_eq_true rfl⟩⟩ rfl (by decide) rfl rfl rfl hl rfl (Nat.le_of_ble_eq_true rfl) dX7_number_10 ⟨Nat.zero_le _, Nat.zero_le _⟩ (fun H locs hw => ?_)
    obtain ⟨r13, hr13, hM⟩ := h_b hM
    refine a_callS  (σ' := aG r13.2) (v := (some (.int r13.1))) (as := fun ad => [.int r10.1]) (rest := []) C hw (c_X7_isDigit l hr13) k_X7_isDigit wM_X7_89 ⟨⟨rfl, rfl⟩, ⟨Nat.le_of_ble_eq_true rfl, Nat.le_of_ble_eq_true rfl⟩⟩ rfl hl rfl (Nat.le_of_ble_eq_true rfl) dX7_number_13 ⟨Nat.zero_le _, Nat.zero_le _⟩ (fun H locs hw => ?_)
    refine lv_if_ne (tgt := 30) hx hb dX7_number_16 (by decide) (fun hc => ?_) (fun hc => ?_)
    · replace hM := h_f hc hM
      refine lv_aload_n hx hb dX7_number_30 rfl (lv_at hl 0 rfl) ?_
      refine a_geti (σ := aG r13.2) (o := 109) (T := TX7) (N := 20) C wU_X7 hw rfl (by decide) rfl 4 (by decide) rfl wF_X7_51 dX7_number_31 ?_
      refine lv_istore_n (lv' := [(3, .int (gI r13.2 109 4)), (0, .ref (ad 109)), (1, .int x1), (2, .int x2)]) hx hb dX7_number_34 rfl hl (by decide) rfl (fun ls hl => ?_)
      refine lv_iconst (v := (0 : Int32)) hx hb dX7_number_35 (by decide) ?_
      refine lv_istore (lv' := [(4, .int (0 : Int32)), (3, .int (gI r13.2 109 4)), (0, .ref (ad 109)), (1, .int x1), (2, .int x2)]) hx hb dX7_number_36 hl (by decide) rfl (fun ls hl => ?_)
      exact tl_X7_number_38 l C aF (x1) (x2) ((gI r13.2 109 4)) ((0 : Int32)) hM hw (lv_sub hl [2, 3, 4, 1, 0] rfl)
    · replace hM := h_t hc hM
      refine lv_aload_n hx hb dX7_number_19 rfl (lv_at hl 0 rfl) ?_
      refine lv_iconst (v := (1 : Int32)) hx hb dX7_number_20 (by decide) ?_
      refine lv_aload_n hx hb dX7_number_21 rfl (lv_at hl 0 rfl) ?_
      refine a_geti (σ := aG r13.2) (o := 109) (T := TX7) (N := 20) C wU_X7 hw rfl (by decide) rfl 4 (by decide) rfl wF_X7_51 dX7_number_22 ?_
      obtain ⟨r25, hr25, hM⟩ := h_b hM
      refine a_callV (σ' := aG r25) (v := none) (As := fun ad => [.int (1 : Int32), .int (gI r13.2 109 4)]) (rest := []) (o := 109) C hw (c_X7_wrong l hr25) k_X7_wrong wM_X7_85 ⟨⟨rfl, rfl⟩, ⟨Nat.le_of_ble_eq_true rfl, Nat.le_of_ble_eq_true rfl⟩⟩ rfl (by decide) rfl rfl rfl hl rfl (Nat.le_of_ble_eq_true rfl) dX7_number_25 ⟨Nat.zero_le _, Nat.zero_le _⟩ (fun H locs hw => ?_)
      refine lv_iconst (v := (0 : Int32)) hx hb dX7_number_28 (by decide) ?_
      cases h_e hM
      exact a_iret C hw dX7_number_29
  · replace hM := h_t hc hM
    refine lv_iconst (v := (0 : Int32)) hx hb dX7_number_7 (by decide) ?_
    cases h_e hM
    exact a_iret C hw dX7_number_8
def rm_X7_traitTold : Room := { frames := 3, cells := 0, slots := 0, locals := 65 }
theorem k_X7_traitTold : aCal RX7 yX7_traitTold cX7_traitTold 1 (some .int) 0 := ⟨wI_yX7_traitTold, wE_yX7_traitTold, wZ_X7, wC_yX7_traitTold, by decide +kernel⟩
set_option maxHeartbeats 4000000 in
set_option maxRecDepth 100000 in
theorem c_X7_traitTold (l : Launch) {ι : iS} {res : Int32 × iS} (hM : m_X7_traitTold ι = some res) : aM l yX7_traitTold cX7_traitTold 1 (some .int) rm_X7_traitTold (fun ad => [.ref (ad 109)]) (aG ι) (some (.int res.1)) (aG res.2) := by
  refine aM.of (by decide) (fun _ => Nat.le_of_ble_eq_true rfl) ?_
  intro p e s m args below meth c D dA ad adV A ls C hw hl
  have C : aX p m c cX7_traitTold 1 s args aTs RX7 meth (some .int) := C
  have hx := C.1.1
  have hb := C.1.2.1
  have hml := C.1.2.2.1
  have hown := C.1.2.2.2.1
  have hts := C.1.2.2.2.2
  have hl : lv_has ls 1 [(0, .ref (ad 109))] := hl
  unfold m_X7_traitTold at hM
  refine lv_aload_n hx hb dX7_traitTold_0 rfl (lv_at hl 0 rfl) ?_
  refine lv_iconst (v := (0 : Int32)) hx hb dX7_traitTold_1 (by decide) ?_
  refine lv_aload_n hx hb dX7_traitTold_2 rfl (lv_at hl 0 rfl) ?_
  refine a_getp (q := 113) (σ := aG ι) (o := 109) (T := TX7) (N := 20) C wU_X7 hw rfl (by decide) rfl 10 (by decide) rfl wF_X7_23 (aG_P rfl rfl) dX7_traitTold_3 ?_
  refine lv_iconst (v := (0 : Int32)) hx hb dX7_traitTold_6 (by decide) ?_
  refine a_iald (σ := aG ι) (o := 113) C hw rfl (aIn_v (by decide)) (show (0 : Int32).toNatClampNeg = 0 by decide) dX7_traitTold_7 ?_
  refine lv_iconst (v := (1 : Int32)) hx hb dX7_traitTold_8 (by decide) ?_
  refine lv_isub hx hb dX7_traitTold_9 ?_
  obtain ⟨r10, hr10, hM⟩ := h_b hM
  refine a_callV (σ' := aG r10.2) (v := (some (.int r10.1))) (As := fun ad => [.int (0 : Int32), .int ((gI ι 113 0) - (1 : Int32))]) (rest := []) (o := 109) C hw (c_X7_number l hr10) k_X7_number wM_X7_98 ⟨⟨rfl, rfl⟩, ⟨Nat.le_of_ble_eq_true rfl, Nat.le_of_ble_eq_true rfl⟩⟩ rfl (by decide) rfl rfl rfl hl rfl (Nat.le_of_ble_eq_true rfl) dX7_traitTold_10 ⟨Nat.zero_le _, Nat.zero_le _⟩ (fun H locs hw => ?_)
  cases h_e hM
  exact a_iret C hw dX7_traitTold_13
def rm_X7_values : Room := { frames := 3, cells := 0, slots := 0, locals := 65 }
set_option maxHeartbeats 4000000 in
set_option maxRecDepth 100000 in
theorem tl_X7_values_2 (l : Launch) {p : Program} {e : Env} {s : State} {m : MethodId} {args : Array Value} {below : List Frame} {meth : Method} {c : Code} {D : va_G} {dA : Nat → ClassId} {ad adV : Nat → Nat} {A : Nat → Prop} (C : aX p m c cX7_values 3 s args aTs RX7 meth none) {res : iS} : ∀ (n : Nat) (y1 : Int32) (y2 : Int32) {ι : iS}, l_X7_values_2 n y1 y2 ι = some res → ∀ {H : Heap} {locs : List Loc} {ls : Array Slot}, aW D dA ad adV (aG ι) A s H locs → lv_has ls 3 [(0, .ref (ad 109)), (1, .int y1), (2, .int y2)] → W p l e rm_X7_values s m args below meth c H locs 0 0 (MQ below (aQ D dA ad (aG res) A none) args s 0 0 A) (F0 m 2 ls []) := by
  have hx := C.1.1
  have hb := C.1.2.1
  have hml := C.1.2.2.1
  have hown := C.1.2.2.2.1
  have hts := C.1.2.2.2.2
  intro n
  induction n with
  | zero => intro y1 y2 ι hM; simp [l_X7_values_2] at hM
  | succ n ih =>
    intro y1 y2 ι hM H locs ls hw hl
    rw [l_X7_values_2] at hM
    refine lv_iload_n hx hb dX7_values_2 rfl (lv_at hl 2 rfl) ?_
    refine lv_aload_n hx hb dX7_values_3 rfl (lv_at hl 0 rfl) ?_
    refine a_getp (q := 113) (σ := aG ι) (o := 109) (T := TX7) (N := 20) C wU_X7 hw rfl (by decide) rfl 10 (by decide) rfl wF_X7_23 (aG_P rfl rfl) dX7_values_4 ?_
    refine lv_iconst (v := (0 : Int32)) hx hb dX7_values_7 (by decide) ?_
    refine a_iald (σ := aG ι) (o := 113) C hw rfl (aIn_v (by decide)) (show (0 : Int32).toNatClampNeg = 0 by decide) dX7_values_8 ?_
    refine lv_icmp_ge (tgt := 45) hx hb dX7_values_9 (by decide) (fun hc => ?_) (fun hc => ?_)
    · replace hM := h_t hc hM
      cases h_e hM
      exact a_vret C hw dX7_values_45
    · replace hM := h_f hc hM
      refine lv_aload_n hx hb dX7_values_12 rfl (lv_at hl 0 rfl) ?_
      obtain ⟨r13, hr13, hM⟩ := h_b hM
      refine a_callV (σ' := aG r13.2) (v := (some (.int r13.1))) (As := fun ad => []) (rest := []) (o := 109) C hw (c_X7_fine l hr13) k_X7_fine wM_X7_64 ⟨⟨rfl, rfl⟩, ⟨Nat.le_of_ble_eq_true rfl, Nat.le_of_ble_eq_true rfl⟩⟩ rfl (by decide) rfl rfl rfl hl rfl (Nat.le_of_ble_eq_true rfl) dX7_values_13 ⟨Nat.zero_le _, Nat.zero_le _⟩ (fun H locs hw => ?_)
      refine lv_if_eq (tgt := 45) hx hb dX7_values_16 (by decide) (fun hc => ?_) (fun hc => ?_)
      · replace hM := h_t hc hM
        cases h_e hM
        exact a_vret C hw dX7_values_45
      · replace hM := h_f hc hM
        refine lv_aload_n hx hb dX7_values_19 rfl (lv_at hl 0 rfl) ?_
        refine a_getp (q := 113) (σ := aG r13.2) (o := 109) (T := TX7) (N := 20) C wU_X7 hw rfl (by decide) rfl 10 (by decide) rfl wF_X7_23 (aG_P rfl rfl) dX7_values_20 ?_
        refine lv_bipush (v := (9 : Int32)) hx hb dX7_values_23 (by decide) ?_
        refine lv_iconst (v := (5 : Int32)) hx hb dX7_values_25 (by decide) ?_
        refine lv_iload_n hx hb dX7_values_26 rfl (lv_at hl 1 rfl) ?_
        refine lv_imul hx hb dX7_values_27 ?_
        refine lv_iadd hx hb dX7_values_28 ?_
        refine lv_iload_n hx hb dX7_values_29 rfl (lv_at hl 2 rfl) ?_
        refine lv_iadd hx hb dX7_values_30 ?_
        refine lv_aload_n hx hb dX7_values_31 rfl (lv_at hl 0 rfl) ?_
        refine lv_iconst (v := (0 : Int32)) hx hb dX7_values_32 (by decide) ?_
        refine lv_bipush (v := (9 : Int32)) hx hb dX7_values_33 (by decide) ?_
        obtain ⟨r35, hr35, hM⟩ := h_b hM
        refine a_callV (σ' := aG r35.2) (v := (some (.int r35.1))) (As := fun ad => [.int (0 : Int32), .int (9 : Int32)]) (rest := [.int (((9 : Int32) + ((5 : Int32) * y1)) + y2), .ref (ad 113)]) (o := 109) C hw (c_X7_number l hr35) k_X7_number wM_X7_98 ⟨⟨rfl, rfl⟩, ⟨Nat.le_of_ble_eq_true rfl, Nat.le_of_ble_eq_true rfl⟩⟩ rfl (by decide) rfl rfl rfl hl rfl (Nat.le_of_ble_eq_true rfl) dX7_values_35 ⟨Nat.zero_le _, Nat.zero_le _⟩ (fun H locs hw => ?_)
        obtain ⟨hi, hM⟩ := h_i hM
        refine a_iast (σ := aG r35.2) (o := 113) C hw rfl hi rfl dX7_values_38 (fun H locs hw => ?_)
        have hw : aW D dA ad adV (aG (pI r35.2 113 (((9 : Int32) + ((5 : Int32) * y1)) + y2).toNatClampNeg r35.1)) A s H locs := hw
        refine lv_iinc (v := (y2 + 1)) (lv' := [(2, .int (y2 + 1)), (0, .ref (ad 109)), (1, .int y1)]) hx hb dX7_values_39 hl (k := 2) rfl rfl (by decide) rfl (fun ls hl => ?_)
        refine lv_goto (tgt := 2) hx hb dX7_values_42 (by decide) ?_
        exact ih (y1) ((y2 + 1)) hM hw (lv_sub hl [1, 2, 0] rfl)
theorem k_X7_values : aCal RX7 yX7_values cX7_values 3 none 1 := ⟨wI_yX7_values, wE_yX7_values, wZ_X7, wC_yX7_values, by decide +kernel⟩
set_option maxHeartbeats 4000000 in
set_option maxRecDepth 100000 in
theorem c_X7_values (l : Launch) {x1 : Int32} {ι : iS} {res : iS} (hM : m_X7_values x1 ι = some res) : aM l yX7_values cX7_values 3 none rm_X7_values (fun ad => [.ref (ad 109), .int x1]) (aG ι) none (aG res) := by
  refine aM.of (by decide) (fun _ => Nat.le_of_ble_eq_true rfl) ?_
  intro p e s m args below meth c D dA ad adV A ls C hw hl
  have C : aX p m c cX7_values 3 s args aTs RX7 meth none := C
  have hx := C.1.1
  have hb := C.1.2.1
  have hml := C.1.2.2.1
  have hown := C.1.2.2.2.1
  have hts := C.1.2.2.2.2
  have hl : lv_has ls 3 [(0, .ref (ad 109)), (1, .int x1)] := hl
  unfold m_X7_values at hM
  refine lv_iconst (v := (0 : Int32)) hx hb dX7_values_0 (by decide) ?_
  refine lv_istore_n (lv' := [(2, .int (0 : Int32)), (0, .ref (ad 109)), (1, .int x1)]) hx hb dX7_values_1 rfl hl (by decide) rfl (fun ls hl => ?_)
  exact tl_X7_values_2 l C aF (x1) ((0 : Int32)) hM hw (lv_sub hl [1, 2, 0] rfl)
def rm_X7_tells : Room := { frames := 1, cells := 0, slots := 0, locals := 20 }
theorem k_X7_tells : aCal RX7 yX7_tells cX7_tells 2 none 1 := ⟨wI_yX7_tells, wE_yX7_tells, wZ_X7, wC_yX7_tells, by decide +kernel⟩
set_option maxHeartbeats 4000000 in
set_option maxRecDepth 100000 in
theorem c_X7_tells (l : Launch) {x1 : Int32} {ι : iS} {res : iS} (hM : m_X7_tells x1 ι = some res) : aM l yX7_tells cX7_tells 2 none rm_X7_tells (fun ad => [.ref (ad 109), .int x1]) (aG ι) none (aG res) := by
  refine aM.of (by decide) (fun _ => Nat.le_of_ble_eq_true rfl) ?_
  intro p e s m args below meth c D dA ad adV A ls C hw hl
  have C : aX p m c cX7_tells 2 s args aTs RX7 meth none := C
  have hx := C.1.1
  have hb := C.1.2.1
  have hml := C.1.2.2.1
  have hown := C.1.2.2.2.1
  have hts := C.1.2.2.2.2
  have hl : lv_has ls 2 [(0, .ref (ad 109)), (1, .int x1)] := hl
  unfold m_X7_tells at hM
  refine lv_aload_n hx hb dX7_tells_0 rfl (lv_at hl 0 rfl) ?_
  obtain ⟨r1, hr1, hM⟩ := h_b hM
  refine a_callV (σ' := aG r1.2) (v := (some (.int r1.1))) (As := fun ad => []) (rest := []) (o := 109) C hw (c_X7_fine l hr1) k_X7_fine wM_X7_64 ⟨⟨rfl, rfl⟩, ⟨Nat.le_of_ble_eq_true rfl, Nat.le_of_ble_eq_true rfl⟩⟩ rfl (by decide) rfl rfl rfl hl rfl (Nat.le_of_ble_eq_true rfl) dX7_tells_1 ⟨Nat.zero_le _, Nat.zero_le _⟩ (fun H locs hw => ?_)
  refine lv_if_ne (tgt := 8) hx hb dX7_tells_4 (by decide) (fun hc => ?_) (fun hc => ?_)
  · replace hM := h_f hc hM
    refine lv_aload_n hx hb dX7_tells_8 rfl (lv_at hl 0 rfl) ?_
    refine a_getp (q := 113) (σ := aG r1.2) (o := 109) (T := TX7) (N := 20) C wU_X7 hw rfl (by decide) rfl 10 (by decide) rfl wF_X7_23 (aG_P rfl rfl) dX7_tells_9 ?_
    refine lv_bipush (v := (123 : Int32)) hx hb dX7_tells_12 (by decide) ?_
    refine lv_aload_n hx hb dX7_tells_14 rfl (lv_at hl 0 rfl) ?_
    refine a_geti (σ := aG r1.2) (o := 109) (T := TX7) (N := 20) C wU_X7 hw rfl (by decide) rfl 13 (by decide) rfl wF_X7_101 dX7_tells_15 ?_
    refine lv_iadd hx hb dX7_tells_18 ?_
    refine lv_iload_n hx hb dX7_tells_19 rfl (lv_at hl 1 rfl) ?_
    obtain ⟨hi, hM⟩ := h_i hM
    refine a_iast (σ := aG r1.2) (o := 113) C hw rfl hi rfl dX7_tells_20 (fun H locs hw => ?_)
    have hw : aW D dA ad adV (aG (pI r1.2 113 ((123 : Int32) + (gI r1.2 109 13)).toNatClampNeg x1)) A s H locs := hw
    refine lv_aload_n hx hb dX7_tells_21 rfl (lv_at hl 0 rfl) ?_
    refine lv_dup hx hb dX7_tells_22 rfl ?_
    refine a_geti (σ := aG (pI r1.2 113 ((123 : Int32) + (gI r1.2 109 13)).toNatClampNeg x1)) (o := 109) (T := TX7) (N := 20) C wU_X7 hw rfl (by decide) rfl 13 (by decide) rfl wF_X7_101 dX7_tells_23 ?_
    refine lv_iconst (v := (1 : Int32)) hx hb dX7_tells_26 (by decide) ?_
    refine lv_iadd hx hb dX7_tells_27 ?_
    refine a_puti (ty := .int) (σ := aG (pI r1.2 113 ((123 : Int32) + (gI r1.2 109 13)).toNatClampNeg x1)) (o := 109) (T := TX7) (N := 20) (ty0 := tyX7) C wU_X7 tyX7_ok nmX7 hw rfl (by decide) rfl 13 (by decide) rfl wF_X7_101 rfl (by decide +kernel) rfl rfl dX7_tells_28 (fun H locs hw => ?_)
    have hw : aW D dA ad adV (aG (pI (pI r1.2 113 ((123 : Int32) + (gI r1.2 109 13)).toNatClampNeg x1) 109 13 ((gI (pI r1.2 113 ((123 : Int32) + (gI r1.2 109 13)).toNatClampNeg x1) 109 13) + (1 : Int32)))) A s H locs := hw
    cases h_e hM
    exact a_vret C hw dX7_tells_31
  · replace hM := h_t hc hM
    cases h_e hM
    exact a_vret C hw dX7_tells_7
def rm_X7_opens : Room := { frames := 1, cells := 0, slots := 0, locals := 22 }
theorem k_X7_opens : aCal RX7 yX7_opens cX7_opens 1 none 0 := ⟨wI_yX7_opens, wE_yX7_opens, wZ_X7, wC_yX7_opens, by decide +kernel⟩
set_option maxHeartbeats 4000000 in
set_option maxRecDepth 100000 in
theorem c_X7_opens (l : Launch) {ι : iS} {res : iS} (hM : m_X7_opens ι = some res) : aM l yX7_opens cX7_opens 1 none rm_X7_opens (fun ad => [.ref (ad 109)]) (aG ι) none (aG res) := by
  refine aM.of (by decide) (fun _ => Nat.le_of_ble_eq_true rfl) ?_
  intro p e s m args below meth c D dA ad adV A ls C hw hl
  have C : aX p m c cX7_opens 1 s args aTs RX7 meth none := C
  have hx := C.1.1
  have hb := C.1.2.1
  have hml := C.1.2.2.1
  have hown := C.1.2.2.2.1
  have hts := C.1.2.2.2.2
  have hl : lv_has ls 1 [(0, .ref (ad 109))] := hl
  unfold m_X7_opens at hM
  refine lv_aload_n hx hb dX7_opens_0 rfl (lv_at hl 0 rfl) ?_
  refine a_geti (σ := aG ι) (o := 109) (T := TX7) (N := 20) C wU_X7 hw rfl (by decide) rfl 14 (by decide) rfl wF_X7_104 dX7_opens_1 ?_
  refine lv_iconst (v := (4 : Int32)) hx hb dX7_opens_4 (by decide) ?_
  refine lv_icmp_ne (tgt := 17) hx hb dX7_opens_5 (by decide) (fun hc => ?_) (fun hc => ?_)
  · replace hM := h_f hc hM
    refine lv_aload_n hx hb dX7_opens_17 rfl (lv_at hl 0 rfl) ?_
    refine lv_dup hx hb dX7_opens_18 rfl ?_
    refine a_geti (σ := aG ι) (o := 109) (T := TX7) (N := 20) C wU_X7 hw rfl (by decide) rfl 4 (by decide) rfl wF_X7_51 dX7_opens_19 ?_
    refine lv_iconst (v := (1 : Int32)) hx hb dX7_opens_22 (by decide) ?_
    refine lv_iadd hx hb dX7_opens_23 ?_
    refine a_puti (ty := .int) (σ := aG ι) (o := 109) (T := TX7) (N := 20) (ty0 := tyX7) C wU_X7 tyX7_ok nmX7 hw rfl (by decide) rfl 4 (by decide) rfl wF_X7_51 rfl (by decide +kernel) rfl rfl dX7_opens_24 (fun H locs hw => ?_)
    have hw : aW D dA ad adV (aG (pI ι 109 4 ((gI ι 109 4) + (1 : Int32)))) A s H locs := hw
    refine lv_aload_n hx hb dX7_opens_27 rfl (lv_at hl 0 rfl) ?_
    refine lv_dup hx hb dX7_opens_28 rfl ?_
    refine a_geti (σ := aG (pI ι 109 4 ((gI ι 109 4) + (1 : Int32)))) (o := 109) (T := TX7) (N := 20) C wU_X7 hw rfl (by decide) rfl 14 (by decide) rfl wF_X7_104 dX7_opens_29 ?_
    refine lv_iconst (v := (1 : Int32)) hx hb dX7_opens_32 (by decide) ?_
    refine lv_iadd hx hb dX7_opens_33 ?_
    refine a_puti (ty := .int) (σ := aG (pI ι 109 4 ((gI ι 109 4) + (1 : Int32)))) (o := 109) (T := TX7) (N := 20) (ty0 := tyX7) C wU_X7 tyX7_ok nmX7 hw rfl (by decide) rfl 14 (by decide) rfl wF_X7_104 rfl (by decide +kernel) rfl rfl dX7_opens_34 (fun H locs hw => ?_)
    have hw : aW D dA ad adV (aG (pI (pI ι 109 4 ((gI ι 109 4) + (1 : Int32))) 109 14 ((gI (pI ι 109 4 ((gI ι 109 4) + (1 : Int32))) 109 14) + (1 : Int32)))) A s H locs := hw
    cases h_e hM
    exact a_vret C hw dX7_opens_37
  · replace hM := h_t hc hM
    refine lv_aload_n hx hb dX7_opens_8 rfl (lv_at hl 0 rfl) ?_
    refine lv_iconst (v := (4 : Int32)) hx hb dX7_opens_9 (by decide) ?_
    refine lv_aload_n hx hb dX7_opens_10 rfl (lv_at hl 0 rfl) ?_
    refine a_geti (σ := aG ι) (o := 109) (T := TX7) (N := 20) C wU_X7 hw rfl (by decide) rfl 4 (by decide) rfl wF_X7_51 dX7_opens_11 ?_
    obtain ⟨r14, hr14, hM⟩ := h_b hM
    refine a_callV (σ' := aG r14) (v := none) (As := fun ad => [.int (4 : Int32), .int (gI ι 109 4)]) (rest := []) (o := 109) C hw (c_X7_wrong l hr14) k_X7_wrong wM_X7_85 ⟨⟨rfl, rfl⟩, ⟨Nat.le_of_ble_eq_true rfl, Nat.le_of_ble_eq_true rfl⟩⟩ rfl (by decide) rfl rfl rfl hl rfl (Nat.le_of_ble_eq_true rfl) dX7_opens_14 ⟨Nat.zero_le _, Nat.zero_le _⟩ (fun H locs hw => ?_)
    refine lv_aload_n hx hb dX7_opens_17 rfl (lv_at hl 0 rfl) ?_
    refine lv_dup hx hb dX7_opens_18 rfl ?_
    refine a_geti (σ := aG r14) (o := 109) (T := TX7) (N := 20) C wU_X7 hw rfl (by decide) rfl 4 (by decide) rfl wF_X7_51 dX7_opens_19 ?_
    refine lv_iconst (v := (1 : Int32)) hx hb dX7_opens_22 (by decide) ?_
    refine lv_iadd hx hb dX7_opens_23 ?_
    refine a_puti (ty := .int) (σ := aG r14) (o := 109) (T := TX7) (N := 20) (ty0 := tyX7) C wU_X7 tyX7_ok nmX7 hw rfl (by decide) rfl 4 (by decide) rfl wF_X7_51 rfl (by decide +kernel) rfl rfl dX7_opens_24 (fun H locs hw => ?_)
    have hw : aW D dA ad adV (aG (pI r14 109 4 ((gI r14 109 4) + (1 : Int32)))) A s H locs := hw
    refine lv_aload_n hx hb dX7_opens_27 rfl (lv_at hl 0 rfl) ?_
    refine lv_dup hx hb dX7_opens_28 rfl ?_
    refine a_geti (σ := aG (pI r14 109 4 ((gI r14 109 4) + (1 : Int32)))) (o := 109) (T := TX7) (N := 20) C wU_X7 hw rfl (by decide) rfl 14 (by decide) rfl wF_X7_104 dX7_opens_29 ?_
    refine lv_iconst (v := (1 : Int32)) hx hb dX7_opens_32 (by decide) ?_
    refine lv_iadd hx hb dX7_opens_33 ?_
    refine a_puti (ty := .int) (σ := aG (pI r14 109 4 ((gI r14 109 4) + (1 : Int32)))) (o := 109) (T := TX7) (N := 20) (ty0 := tyX7) C wU_X7 tyX7_ok nmX7 hw rfl (by decide) rfl 14 (by decide) rfl wF_X7_104 rfl (by decide +kernel) rfl rfl dX7_opens_34 (fun H locs hw => ?_)
    have hw : aW D dA ad adV (aG (pI (pI r14 109 4 ((gI r14 109 4) + (1 : Int32))) 109 14 ((gI (pI r14 109 4 ((gI r14 109 4) + (1 : Int32))) 109 14) + (1 : Int32)))) A s H locs := hw
    cases h_e hM
    exact a_vret C hw dX7_opens_37
def rm_X7_fault : Room := { frames := 0, cells := 0, slots := 0, locals := 0 }
theorem k_X7_fault : aCal RX7 yX7_fault cX7_fault 1 (some .int) 0 := ⟨wI_yX7_fault, wE_yX7_fault, wZ_X7, wC_yX7_fault, by decide +kernel⟩
set_option maxHeartbeats 4000000 in
set_option maxRecDepth 100000 in
theorem c_X7_fault (l : Launch) {ι : iS} {res : Int32 × iS} (hM : m_X7_fault ι = some res) : aM l yX7_fault cX7_fault 1 (some .int) rm_X7_fault (fun ad => [.ref (ad 109)]) (aG ι) (some (.int res.1)) (aG res.2) := by
  refine aM.of (by decide) (fun _ => Nat.le_of_ble_eq_true rfl) ?_
  intro p e s m args below meth c D dA ad adV A ls C hw hl
  have C : aX p m c cX7_fault 1 s args aTs RX7 meth (some .int) := C
  have hx := C.1.1
  have hb := C.1.2.1
  have hml := C.1.2.2.1
  have hown := C.1.2.2.2.1
  have hts := C.1.2.2.2.2
  have hl : lv_has ls 1 [(0, .ref (ad 109))] := hl
  unfold m_X7_fault at hM
  refine lv_aload_n hx hb dX7_fault_0 rfl (lv_at hl 0 rfl) ?_
  refine lv_iconst (v := (0 : Int32)) hx hb dX7_fault_1 (by decide) ?_
  refine a_puti (ty := .int) (σ := aG ι) (o := 109) (T := TX7) (N := 20) (ty0 := tyX7) C wU_X7 tyX7_ok nmX7 hw rfl (by decide) rfl 0 (by decide) rfl wF_X7_42 rfl (by decide +kernel) rfl rfl dX7_fault_2 (fun H locs hw => ?_)
  have hw : aW D dA ad adV (aG (pI ι 109 0 (0 : Int32))) A s H locs := hw
  refine lv_aload_n hx hb dX7_fault_5 rfl (lv_at hl 0 rfl) ?_
  refine a_geti (σ := aG (pI ι 109 0 (0 : Int32))) (o := 109) (T := TX7) (N := 20) C wU_X7 hw rfl (by decide) rfl 5 (by decide) rfl wF_X7_13 dX7_fault_6 ?_
  cases h_e hM
  exact a_iret C hw dX7_fault_9
def rm_X7_persons : Room := { frames := 0, cells := 0, slots := 0, locals := 0 }
theorem k_X7_persons : aCal RX7 yX7_persons cX7_persons 1 (some .int) 0 := ⟨wI_yX7_persons, wE_yX7_persons, wZ_X7, wC_yX7_persons, by decide +kernel⟩
set_option maxHeartbeats 4000000 in
set_option maxRecDepth 100000 in
theorem c_X7_persons (l : Launch) {ι : iS} {res : Int32 × iS} (hM : m_X7_persons ι = some res) : aM l yX7_persons cX7_persons 1 (some .int) rm_X7_persons (fun ad => [.ref (ad 109)]) (aG ι) (some (.int res.1)) (aG res.2) := by
  refine aM.of (by decide) (fun _ => Nat.le_of_ble_eq_true rfl) ?_
  intro p e s m args below meth c D dA ad adV A ls C hw hl
  have C : aX p m c cX7_persons 1 s args aTs RX7 meth (some .int) := C
  have hx := C.1.1
  have hb := C.1.2.1
  have hml := C.1.2.2.1
  have hown := C.1.2.2.2.1
  have hts := C.1.2.2.2.2
  have hl : lv_has ls 1 [(0, .ref (ad 109))] := hl
  unfold m_X7_persons at hM
  refine lv_iconst (v := (1 : Int32)) hx hb dX7_persons_0 (by decide) ?_
  refine lv_aload_n hx hb dX7_persons_1 rfl (lv_at hl 0 rfl) ?_
  refine a_getp (q := 112) (σ := aG ι) (o := 109) (T := TX7) (N := 20) C wU_X7 hw rfl (by decide) rfl 9 (by decide) rfl wF_X7_20 (aG_P rfl rfl) dX7_persons_2 ?_
  refine lv_iconst (v := (1 : Int32)) hx hb dX7_persons_5 (by decide) ?_
  refine a_iald (σ := aG ι) (o := 112) C hw rfl (aIn_v (by decide)) (show (1 : Int32).toNatClampNeg = 1 by decide) dX7_persons_6 ?_
  refine lv_iadd hx hb dX7_persons_7 ?_
  cases h_e hM
  exact a_iret C hw dX7_persons_8
def rm_X7_valueOf : Room := { frames := 0, cells := 0, slots := 0, locals := 0 }
theorem k_X7_valueOf : aCal RX7 yX7_valueOf cX7_valueOf 3 (some .int) 2 := ⟨wI_yX7_valueOf, wE_yX7_valueOf, wZ_X7, wC_yX7_valueOf, by decide +kernel⟩
set_option maxHeartbeats 4000000 in
set_option maxRecDepth 100000 in
theorem c_X7_valueOf (l : Launch) {x1 : Int32} {x2 : Int32} {ι : iS} {res : Int32 × iS} (hM : m_X7_valueOf x1 x2 ι = some res) : aM l yX7_valueOf cX7_valueOf 3 (some .int) rm_X7_valueOf (fun ad => [.ref (ad 109), .int x1, .int x2]) (aG ι) (some (.int res.1)) (aG res.2) := by
  refine aM.of (by decide) (fun _ => Nat.le_of_ble_eq_true rfl) ?_
  intro p e s m args below meth c D dA ad adV A ls C hw hl
  have C : aX p m c cX7_valueOf 3 s args aTs RX7 meth (some .int) := C
  have hx := C.1.1
  have hb := C.1.2.1
  have hml := C.1.2.2.1
  have hown := C.1.2.2.2.1
  have hts := C.1.2.2.2.2
  have hl : lv_has ls 3 [(0, .ref (ad 109)), (1, .int x1), (2, .int x2)] := hl
  unfold m_X7_valueOf at hM
  refine lv_aload_n hx hb dX7_valueOf_0 rfl (lv_at hl 0 rfl) ?_
  refine a_getp (q := 112) (σ := aG ι) (o := 109) (T := TX7) (N := 20) C wU_X7 hw rfl (by decide) rfl 9 (by decide) rfl wF_X7_20 (aG_P rfl rfl) dX7_valueOf_1 ?_
  refine lv_bipush (v := (9 : Int32)) hx hb dX7_valueOf_4 (by decide) ?_
  refine lv_iconst (v := (5 : Int32)) hx hb dX7_valueOf_6 (by decide) ?_
  refine lv_iload_n hx hb dX7_valueOf_7 rfl (lv_at hl 1 rfl) ?_
  refine lv_imul hx hb dX7_valueOf_8 ?_
  refine lv_iadd hx hb dX7_valueOf_9 ?_
  refine lv_iload_n hx hb dX7_valueOf_10 rfl (lv_at hl 2 rfl) ?_
  refine lv_iadd hx hb dX7_valueOf_11 ?_
  obtain ⟨hi, hM⟩ := h_i hM
  refine a_iald (σ := aG ι) (o := 112) C hw rfl hi rfl dX7_valueOf_12 ?_
  cases h_e hM
  exact a_iret C hw dX7_valueOf_13
def rm_X7_offOf : Room := { frames := 1, cells := 0, slots := 0, locals := 22 }
theorem k_X7_offOf : aCal RX7 yX7_offOf cX7_offOf 5 (some .int) 3 := ⟨wI_yX7_offOf, wE_yX7_offOf, wZ_X7, wC_yX7_offOf, by decide +kernel⟩
set_option maxHeartbeats 4000000 in
set_option maxRecDepth 100000 in
theorem c_X7_offOf (l : Launch) {x1 : Int32} {x2 : Int32} {x3 : Int32} {ι : iS} {res : Int32 × iS} (hM : m_X7_offOf x1 x2 x3 ι = some res) : aM l yX7_offOf cX7_offOf 5 (some .int) rm_X7_offOf (fun ad => [.ref (ad 109), .int x1, .int x2, .int x3]) (aG ι) (some (.int res.1)) (aG res.2) := by
  refine aM.of (by decide) (fun _ => Nat.le_of_ble_eq_true rfl) ?_
  intro p e s m args below meth c D dA ad adV A ls C hw hl
  have C : aX p m c cX7_offOf 5 s args aTs RX7 meth (some .int) := C
  have hx := C.1.1
  have hb := C.1.2.1
  have hml := C.1.2.2.1
  have hown := C.1.2.2.2.1
  have hts := C.1.2.2.2.2
  have hl : lv_has ls 5 [(0, .ref (ad 109)), (1, .int x1), (2, .int x2), (3, .int x3)] := hl
  unfold m_X7_offOf at hM
  refine lv_aload_n hx hb dX7_offOf_0 rfl (lv_at hl 0 rfl) ?_
  refine a_getp (q := 112) (σ := aG ι) (o := 109) (T := TX7) (N := 20) C wU_X7 hw rfl (by decide) rfl 9 (by decide) rfl wF_X7_20 (aG_P rfl rfl) dX7_offOf_1 ?_
  refine lv_bipush (v := (89 : Int32)) hx hb dX7_offOf_4 (by decide) ?_
  refine lv_iload_n hx hb dX7_offOf_6 rfl (lv_at hl 2 rfl) ?_
  refine lv_iadd hx hb dX7_offOf_7 ?_
  obtain ⟨hi, hM⟩ := h_i hM
  refine a_iald (σ := aG ι) (o := 112) C hw rfl hi rfl dX7_offOf_8 ?_
  refine lv_iconst (v := (-1 : Int32)) hx hb dX7_offOf_9 (by decide) ?_
  refine lv_icmp_ne (tgt := 15) hx hb dX7_offOf_10 (by decide) (fun hc => ?_) (fun hc => ?_)
  · replace hM := h_f hc hM
    refine lv_aload_n hx hb dX7_offOf_15 rfl (lv_at hl 0 rfl) ?_
    refine lv_iload_n hx hb dX7_offOf_16 rfl (lv_at hl 1 rfl) ?_
    refine lv_iload_n hx hb dX7_offOf_17 rfl (lv_at hl 2 rfl) ?_
    obtain ⟨r18, hr18, hM⟩ := h_b hM
    refine a_callV (σ' := aG r18.2) (v := (some (.int r18.1))) (As := fun ad => [.int x1, .int x2]) (rest := []) (o := 109) C hw (c_X7_valueOf l hr18) k_X7_valueOf wM_X7_183 ⟨⟨rfl, rfl⟩, ⟨Nat.le_of_ble_eq_true rfl, Nat.le_of_ble_eq_true rfl⟩⟩ rfl (by decide) rfl rfl rfl hl rfl (Nat.le_of_ble_eq_true rfl) dX7_offOf_18 ⟨Nat.zero_le _, Nat.zero_le _⟩ (fun H locs hw => ?_)
    refine lv_iload_n hx hb dX7_offOf_21 rfl (lv_at hl 3 rfl) ?_
    refine lv_if_eq (tgt := 34) hx hb dX7_offOf_22 (by decide) (fun hc => ?_) (fun hc => ?_)
    · replace hM := h_t hc hM
      refine lv_aload_n hx hb dX7_offOf_34 rfl (lv_at hl 0 rfl) ?_
      refine a_getp (q := 112) (σ := aG r18.2) (o := 109) (T := TX7) (N := 20) C wU_X7 hw rfl (by decide) rfl 9 (by decide) rfl wF_X7_20 (aG_P rfl rfl) dX7_offOf_35 ?_
      refine lv_bipush (v := (89 : Int32)) hx hb dX7_offOf_38 (by decide) ?_
      refine lv_iload_n hx hb dX7_offOf_40 rfl (lv_at hl 2 rfl) ?_
      refine lv_iadd hx hb dX7_offOf_41 ?_
      obtain ⟨hi, hM⟩ := h_i hM
      refine a_iald (σ := aG r18.2) (o := 112) C hw rfl hi rfl dX7_offOf_42 ?_
      refine lv_isub hx hb dX7_offOf_43 ?_
      refine lv_istore (lv' := [(4, .int (r18.1 - (gI r18.2 112 ((89 : Int32) + x2).toNatClampNeg))), (0, .ref (ad 109)), (1, .int x1), (2, .int x2), (3, .int x3)]) hx hb dX7_offOf_44 hl (by decide) rfl (fun ls hl => ?_)
      refine lv_iload hx hb dX7_offOf_46 (lv_at hl 0 rfl) ?_
      refine lv_if_ge (tgt := 57) hx hb dX7_offOf_48 (by decide) (fun hc => ?_) (fun hc => ?_)
      · replace hM := h_t hc hM
        refine lv_iload hx hb dX7_offOf_57 (lv_at hl 0 rfl) ?_
        cases h_e hM
        exact a_iret C hw dX7_offOf_59
      · replace hM := h_f hc hM
        refine lv_iload hx hb dX7_offOf_51 (lv_at hl 0 rfl) ?_
        refine lv_ineg hx hb dX7_offOf_53 ?_
        refine lv_goto (tgt := 59) hx hb dX7_offOf_54 (by decide) ?_
        cases h_e hM
        exact a_iret C hw dX7_offOf_59
    · replace hM := h_f hc hM
      refine lv_aload_n hx hb dX7_offOf_25 rfl (lv_at hl 0 rfl) ?_
      refine lv_iconst (v := (0 : Int32)) hx hb dX7_offOf_26 (by decide) ?_
      refine lv_iload_n hx hb dX7_offOf_27 rfl (lv_at hl 2 rfl) ?_
      obtain ⟨r28, hr28, hM⟩ := h_b hM
      refine a_callV (σ' := aG r28.2) (v := (some (.int r28.1))) (As := fun ad => [.int (0 : Int32), .int x2]) (rest := [.int r18.1]) (o := 109) C hw (c_X7_valueOf l hr28) k_X7_valueOf wM_X7_183 ⟨⟨rfl, rfl⟩, ⟨Nat.le_of_ble_eq_true rfl, Nat.le_of_ble_eq_true rfl⟩⟩ rfl (by decide) rfl rfl rfl hl rfl (Nat.le_of_ble_eq_true rfl) dX7_offOf_28 ⟨Nat.zero_le _, Nat.zero_le _⟩ (fun H locs hw => ?_)
      refine lv_goto (tgt := 43) hx hb dX7_offOf_31 (by decide) ?_
      refine lv_isub hx hb dX7_offOf_43 ?_
      refine lv_istore (lv' := [(4, .int (r18.1 - r28.1)), (0, .ref (ad 109)), (1, .int x1), (2, .int x2), (3, .int x3)]) hx hb dX7_offOf_44 hl (by decide) rfl (fun ls hl => ?_)
      refine lv_iload hx hb dX7_offOf_46 (lv_at hl 0 rfl) ?_
      refine lv_if_ge (tgt := 57) hx hb dX7_offOf_48 (by decide) (fun hc => ?_) (fun hc => ?_)
      · replace hM := h_t hc hM
        refine lv_iload hx hb dX7_offOf_57 (lv_at hl 0 rfl) ?_
        cases h_e hM
        exact a_iret C hw dX7_offOf_59
      · replace hM := h_f hc hM
        refine lv_iload hx hb dX7_offOf_51 (lv_at hl 0 rfl) ?_
        refine lv_ineg hx hb dX7_offOf_53 ?_
        refine lv_goto (tgt := 59) hx hb dX7_offOf_54 (by decide) ?_
        cases h_e hM
        exact a_iret C hw dX7_offOf_59
  · replace hM := h_t hc hM
    refine lv_iconst (v := (0 : Int32)) hx hb dX7_offOf_13 (by decide) ?_
    cases h_e hM
    exact a_iret C hw dX7_offOf_14
def rm_X7_held : Room := { frames := 0, cells := 0, slots := 0, locals := 0 }
theorem k_X7_held : aCalS yX7_held cX7_held 2 (some .long) 1 := ⟨wS_yX7_held, wZ_X7, wC_yX7_held, by decide +kernel⟩
set_option maxHeartbeats 4000000 in
set_option maxRecDepth 100000 in
theorem c_X7_held (l : Launch) {x1 : Int64} {ι : iS} {res : Int64 × iS} (hM : m_X7_held x1 ι = some res) : aM l yX7_held cX7_held 2 (some .long) rm_X7_held (fun ad => [.long x1]) (aG ι) (some (.long res.1)) (aG res.2) := by
  refine aM.of (by decide) (fun _ => Nat.le_of_ble_eq_true rfl) ?_
  intro p e s m args below meth c D dA ad adV A ls C hw hl
  have C : aX p m c cX7_held 2 s args aTs RX7 meth (some .long) := C
  have hx := C.1.1
  have hb := C.1.2.1
  have hml := C.1.2.2.1
  have hown := C.1.2.2.2.1
  have hts := C.1.2.2.2.2
  have hl : lv_has ls 2 [(0, .long x1)] := hl
  unfold m_X7_held at hM
  refine lv_lload_n hx hb dX7_held_0 rfl (lv_at hl 0 rfl) ?_
  refine lv_ldc2 (v := (1000000 : Int64)) hx hb hown (hts _ wQ_X7_186) dX7_held_1 ?_
  refine W.lcmp hx hb dX7_held_4 ?_
  refine lv_if_le (tgt := 14) hx hb dX7_held_5 (by decide) (fun hc => ?_) (fun hc => ?_)
  · replace hM := h_t hc hM
    refine lv_lload_n hx hb dX7_held_14 rfl (lv_at hl 0 rfl) ?_
    refine lv_ldc2 (v := (-1000000 : Int64)) hx hb hown (hts _ wQ_X7_188) dX7_held_15 ?_
    refine W.lcmp hx hb dX7_held_18 ?_
    refine lv_if_ge (tgt := 28) hx hb dX7_held_19 (by decide) (fun hc => ?_) (fun hc => ?_)
    · replace hM := h_t hc hM
      refine lv_lload_n hx hb dX7_held_28 rfl (lv_at hl 0 rfl) ?_
      cases h_e hM
      exact a_lret C hw dX7_held_29
    · replace hM := h_f hc hM
      refine lv_ldc2 (v := (-1000000 : Int64)) hx hb hown (hts _ wQ_X7_188) dX7_held_22 ?_
      refine lv_goto (tgt := 29) hx hb dX7_held_25 (by decide) ?_
      cases h_e hM
      exact a_lret C hw dX7_held_29
  · replace hM := h_f hc hM
    refine lv_ldc2 (v := (1000000 : Int64)) hx hb hown (hts _ wQ_X7_186) dX7_held_8 ?_
    refine lv_goto (tgt := 29) hx hb dX7_held_11 (by decide) ?_
    cases h_e hM
    exact a_lret C hw dX7_held_29
def rm_X7_formed : Room := { frames := 2, cells := 0, slots := 0, locals := 46 }
set_option maxHeartbeats 4000000 in
set_option maxRecDepth 100000 in
theorem tl_X7_formed_6 (l : Launch) {p : Program} {e : Env} {s : State} {m : MethodId} {args : Array Value} {below : List Frame} {meth : Method} {c : Code} {D : va_G} {dA : Nat → ClassId} {ad adV : Nat → Nat} {A : Nat → Prop} (C : aX p m c cX7_formed 10 s args aTs RX7 meth (some .long)) {res : Int64 × iS} : ∀ (n : Nat) (y1 : Int32) (y2 : Int32) (y3 : Int32) (y4 : Int32) {ι : iS}, l_X7_formed_6 n y1 y2 y3 y4 ι = some res → ∀ {H : Heap} {locs : List Loc} {ls : Array Slot}, aW D dA ad adV (aG ι) A s H locs → lv_has ls 10 [(0, .ref (ad 109)), (1, .int y1), (2, .int y2), (3, .int y3), (4, .int y4)] → W p l e rm_X7_formed s m args below meth c H locs 0 0 (MQ below (aQ D dA ad (aG res.2) A (some (.long res.1))) args s 0 0 A) (F0 m 6 ls []) := by
  have hx := C.1.1
  have hb := C.1.2.1
  have hml := C.1.2.2.1
  have hown := C.1.2.2.2.1
  have hts := C.1.2.2.2.2
  intro n
  induction n with
  | zero => intro y1 y2 y3 y4 ι hM; simp [l_X7_formed_6] at hM
  | succ n ih =>
    intro y1 y2 y3 y4 ι hM H locs ls hw hl
    rw [l_X7_formed_6] at hM
    refine lv_aload_n hx hb dX7_formed_6 rfl (lv_at hl 0 rfl) ?_
    refine a_getp (q := 112) (σ := aG ι) (o := 109) (T := TX7) (N := 20) C wU_X7 hw rfl (by decide) rfl 9 (by decide) rfl wF_X7_20 (aG_P rfl rfl) dX7_formed_7 ?_
    refine lv_iload hx hb dX7_formed_10 (lv_at hl 4 rfl) ?_
    obtain ⟨hi, hM⟩ := h_i hM
    refine a_iald (σ := aG ι) (o := 112) C hw rfl hi rfl dX7_formed_12 ?_
    refine lv_if_eq (tgt := 212) hx hb dX7_formed_13 (by decide) (fun hc => ?_) (fun hc => ?_)
    · replace hM := h_t hc hM
      refine lv_aload_n hx hb dX7_formed_212 rfl (lv_at hl 0 rfl) ?_
      refine a_getp (q := 123) (σ := aG ι) (o := 109) (T := TX7) (N := 20) C wU_X7 hw rfl (by decide) rfl 16 (by decide) rfl wF_X7_31 (aG_P rfl rfl) dX7_formed_213 ?_
      refine lv_iconst (v := (0 : Int32)) hx hb dX7_formed_216 (by decide) ?_
      refine a_lald (σ := aG ι) (o := 123) C hw rfl (aIn_v (by decide)) (show (0 : Int32).toNatClampNeg = 0 by decide) dX7_formed_217 ?_
      cases h_e hM
      exact a_lret C hw dX7_formed_218
    · replace hM := h_f hc hM
      refine lv_aload_n hx hb dX7_formed_16 rfl (lv_at hl 0 rfl) ?_
      refine a_getp (q := 112) (σ := aG ι) (o := 109) (T := TX7) (N := 20) C wU_X7 hw rfl (by decide) rfl 9 (by decide) rfl wF_X7_20 (aG_P rfl rfl) dX7_formed_17 ?_
      refine lv_iload hx hb dX7_formed_20 (lv_at hl 4 rfl) ?_
      obtain ⟨hi, hM⟩ := h_i hM
      refine a_iald (σ := aG ι) (o := 112) C hw rfl hi rfl dX7_formed_22 ?_
      refine lv_istore (lv' := [(5, .int (gI ι 112 y4.toNatClampNeg)), (0, .ref (ad 109)), (1, .int y1), (2, .int y2), (3, .int y3), (4, .int y4)]) hx hb dX7_formed_23 hl (by decide) rfl (fun ls hl => ?_)
      refine lv_iload hx hb dX7_formed_25 (lv_at hl 0 rfl) ?_
      refine lv_iconst (v := (5 : Int32)) hx hb dX7_formed_27 (by decide) ?_
      refine lv_icmp_ge (tgt := 113) hx hb dX7_formed_28 (by decide) (fun hc => ?_) (fun hc => ?_)
      · replace hM := h_t hc hM
        refine lv_iload hx hb dX7_formed_113 (lv_at hl 0 rfl) ?_
        refine lv_bipush (v := (8 : Int32)) hx hb dX7_formed_115 (by decide) ?_
        refine lv_icmp_ne (tgt := 140) hx hb dX7_formed_117 (by decide) (fun hc => ?_) (fun hc => ?_)
        · replace hM := h_f hc hM
          refine lv_iinc (v := (y3 + (-1))) (lv' := [(3, .int (y3 + (-1))), (5, .int (gI ι 112 y4.toNatClampNeg)), (0, .ref (ad 109)), (1, .int y1), (2, .int y2), (4, .int y4)]) hx hb dX7_formed_140 hl (k := 4) rfl rfl (by decide) rfl (fun ls hl => ?_)
          refine lv_aload_n hx hb dX7_formed_143 rfl (lv_at hl 2 rfl) ?_
          refine a_getp (q := 123) (σ := aG ι) (o := 109) (T := TX7) (N := 20) C wU_X7 hw rfl (by decide) rfl 16 (by decide) rfl wF_X7_31 (aG_P rfl rfl) dX7_formed_144 ?_
          refine lv_iload_n hx hb dX7_formed_147 rfl (lv_at hl 0 rfl) ?_
          refine lv_iconst (v := (1 : Int32)) hx hb dX7_formed_148 (by decide) ?_
          refine lv_isub hx hb dX7_formed_149 ?_
          obtain ⟨hi, hM⟩ := h_i hM
          refine a_lald (σ := aG ι) (o := 123) C hw rfl hi rfl dX7_formed_150 ?_
          refine lv_lstore (lv' := [(6, .long (gJ ι 123 ((y3 + (-1)) - (1 : Int32)).toNatClampNeg)), (3, .int (y3 + (-1))), (5, .int (gI ι 112 y4.toNatClampNeg)), (0, .ref (ad 109)), (1, .int y1), (2, .int y2), (4, .int y4)]) hx hb dX7_formed_151 hl (by decide) rfl (fun ls hl => ?_)
          refine lv_aload_n hx hb dX7_formed_153 rfl (lv_at hl 3 rfl) ?_
          refine a_getp (q := 123) (σ := aG ι) (o := 109) (T := TX7) (N := 20) C wU_X7 hw rfl (by decide) rfl 16 (by decide) rfl wF_X7_31 (aG_P rfl rfl) dX7_formed_154 ?_
          refine lv_iload_n hx hb dX7_formed_157 rfl (lv_at hl 1 rfl) ?_
          obtain ⟨hi, hM⟩ := h_i hM
          refine a_lald (σ := aG ι) (o := 123) C hw rfl hi rfl dX7_formed_158 ?_
          refine lv_lstore (lv' := [(8, .long (gJ ι 123 (y3 + (-1)).toNatClampNeg)), (6, .long (gJ ι 123 ((y3 + (-1)) - (1 : Int32)).toNatClampNeg)), (3, .int (y3 + (-1))), (5, .int (gI ι 112 y4.toNatClampNeg)), (0, .ref (ad 109)), (1, .int y1), (2, .int y2), (4, .int y4)]) hx hb dX7_formed_159 hl (by decide) rfl (fun ls hl => ?_)
          refine lv_aload_n hx hb dX7_formed_161 rfl (lv_at hl 4 rfl) ?_
          refine a_getp (q := 123) (σ := aG ι) (o := 109) (T := TX7) (N := 20) C wU_X7 hw rfl (by decide) rfl 16 (by decide) rfl wF_X7_31 (aG_P rfl rfl) dX7_formed_162 ?_
          refine lv_iload_n hx hb dX7_formed_165 rfl (lv_at hl 2 rfl) ?_
          refine lv_iconst (v := (1 : Int32)) hx hb dX7_formed_166 (by decide) ?_
          refine lv_isub hx hb dX7_formed_167 ?_
          refine lv_iload hx hb dX7_formed_168 (lv_at hl 3 rfl) ?_
          refine lv_iconst (v := (5 : Int32)) hx hb dX7_formed_170 (by decide) ?_
          refine lv_icmp_ne (tgt := 182) hx hb dX7_formed_171 (by decide) (fun hc => ?_) (fun hc => ?_)
          · replace hM := h_f hc hM
            refine lv_iload hx hb dX7_formed_182 (lv_at hl 3 rfl) ?_
            refine lv_bipush (v := (6 : Int32)) hx hb dX7_formed_184 (by decide) ?_
            refine lv_icmp_ne (tgt := 197) hx hb dX7_formed_186 (by decide) (fun hc => ?_) (fun hc => ?_)
            · replace hM := h_f hc hM
              refine lv_lload hx hb dX7_formed_197 (lv_at hl 1 rfl) ?_
              refine lv_lload hx hb dX7_formed_199 (lv_at hl 0 rfl) ?_
              refine lv_lmul hx hb dX7_formed_201 ?_
              obtain ⟨r202, hr202, hM⟩ := h_b hM
              refine a_callS  (σ' := aG r202.2) (v := (some (.long r202.1))) (as := fun ad => [.long ((gJ ι 123 ((y3 + (-1)) - (1 : Int32)).toNatClampNeg) * (gJ ι 123 (y3 + (-1)).toNatClampNeg))]) (rest := [.int ((y3 + (-1)) - (1 : Int32)), .ref (ad 123)]) C hw (c_X7_held l hr202) k_X7_held wM_X7_194 ⟨⟨rfl, rfl⟩, ⟨Nat.le_of_ble_eq_true rfl, Nat.le_of_ble_eq_true rfl⟩⟩ rfl hl rfl (Nat.le_of_ble_eq_true rfl) dX7_formed_202 ⟨Nat.zero_le _, Nat.zero_le _⟩ (fun H locs hw => ?_)
              obtain ⟨hi, hM⟩ := h_i hM
              refine a_last (σ := aG r202.2) (o := 123) C hw rfl hi rfl dX7_formed_205 (fun H locs hw => ?_)
              have hw : aW D dA ad adV (aG (pJ r202.2 123 ((y3 + (-1)) - (1 : Int32)).toNatClampNeg r202.1)) A s H locs := hw
              refine lv_iinc (v := (y4 + 1)) (lv' := [(4, .int (y4 + 1)), (8, .long (gJ ι 123 (y3 + (-1)).toNatClampNeg)), (6, .long (gJ ι 123 ((y3 + (-1)) - (1 : Int32)).toNatClampNeg)), (3, .int (y3 + (-1))), (5, .int (gI ι 112 y4.toNatClampNeg)), (0, .ref (ad 109)), (1, .int y1), (2, .int y2)]) hx hb dX7_formed_206 hl (k := 7) rfl rfl (by decide) rfl (fun ls hl => ?_)
              refine lv_goto (tgt := 6) hx hb dX7_formed_209 (by decide) ?_
              exact ih (y1) (y2) ((y3 + (-1))) ((y4 + 1)) hM hw (lv_sub hl [5, 6, 7, 3, 0] rfl)
            · replace hM := h_t hc hM
              refine lv_lload hx hb dX7_formed_189 (lv_at hl 1 rfl) ?_
              refine lv_lload hx hb dX7_formed_191 (lv_at hl 0 rfl) ?_
              refine lv_lsub hx hb dX7_formed_193 ?_
              refine lv_goto (tgt := 202) hx hb dX7_formed_194 (by decide) ?_
              obtain ⟨r202, hr202, hM⟩ := h_b hM
              refine a_callS  (σ' := aG r202.2) (v := (some (.long r202.1))) (as := fun ad => [.long ((gJ ι 123 ((y3 + (-1)) - (1 : Int32)).toNatClampNeg) - (gJ ι 123 (y3 + (-1)).toNatClampNeg))]) (rest := [.int ((y3 + (-1)) - (1 : Int32)), .ref (ad 123)]) C hw (c_X7_held l hr202) k_X7_held wM_X7_194 ⟨⟨rfl, rfl⟩, ⟨Nat.le_of_ble_eq_true rfl, Nat.le_of_ble_eq_true rfl⟩⟩ rfl hl rfl (Nat.le_of_ble_eq_true rfl) dX7_formed_202 ⟨Nat.zero_le _, Nat.zero_le _⟩ (fun H locs hw => ?_)
              obtain ⟨hi, hM⟩ := h_i hM
              refine a_last (σ := aG r202.2) (o := 123) C hw rfl hi rfl dX7_formed_205 (fun H locs hw => ?_)
              have hw : aW D dA ad adV (aG (pJ r202.2 123 ((y3 + (-1)) - (1 : Int32)).toNatClampNeg r202.1)) A s H locs := hw
              refine lv_iinc (v := (y4 + 1)) (lv' := [(4, .int (y4 + 1)), (8, .long (gJ ι 123 (y3 + (-1)).toNatClampNeg)), (6, .long (gJ ι 123 ((y3 + (-1)) - (1 : Int32)).toNatClampNeg)), (3, .int (y3 + (-1))), (5, .int (gI ι 112 y4.toNatClampNeg)), (0, .ref (ad 109)), (1, .int y1), (2, .int y2)]) hx hb dX7_formed_206 hl (k := 7) rfl rfl (by decide) rfl (fun ls hl => ?_)
              refine lv_goto (tgt := 6) hx hb dX7_formed_209 (by decide) ?_
              exact ih (y1) (y2) ((y3 + (-1))) ((y4 + 1)) hM hw (lv_sub hl [5, 6, 7, 3, 0] rfl)
          · replace hM := h_t hc hM
            refine lv_lload hx hb dX7_formed_174 (lv_at hl 1 rfl) ?_
            refine lv_lload hx hb dX7_formed_176 (lv_at hl 0 rfl) ?_
            refine lv_ladd hx hb dX7_formed_178 ?_
            refine lv_goto (tgt := 202) hx hb dX7_formed_179 (by decide) ?_
            obtain ⟨r202, hr202, hM⟩ := h_b hM
            refine a_callS  (σ' := aG r202.2) (v := (some (.long r202.1))) (as := fun ad => [.long ((gJ ι 123 ((y3 + (-1)) - (1 : Int32)).toNatClampNeg) + (gJ ι 123 (y3 + (-1)).toNatClampNeg))]) (rest := [.int ((y3 + (-1)) - (1 : Int32)), .ref (ad 123)]) C hw (c_X7_held l hr202) k_X7_held wM_X7_194 ⟨⟨rfl, rfl⟩, ⟨Nat.le_of_ble_eq_true rfl, Nat.le_of_ble_eq_true rfl⟩⟩ rfl hl rfl (Nat.le_of_ble_eq_true rfl) dX7_formed_202 ⟨Nat.zero_le _, Nat.zero_le _⟩ (fun H locs hw => ?_)
            obtain ⟨hi, hM⟩ := h_i hM
            refine a_last (σ := aG r202.2) (o := 123) C hw rfl hi rfl dX7_formed_205 (fun H locs hw => ?_)
            have hw : aW D dA ad adV (aG (pJ r202.2 123 ((y3 + (-1)) - (1 : Int32)).toNatClampNeg r202.1)) A s H locs := hw
            refine lv_iinc (v := (y4 + 1)) (lv' := [(4, .int (y4 + 1)), (8, .long (gJ ι 123 (y3 + (-1)).toNatClampNeg)), (6, .long (gJ ι 123 ((y3 + (-1)) - (1 : Int32)).toNatClampNeg)), (3, .int (y3 + (-1))), (5, .int (gI ι 112 y4.toNatClampNeg)), (0, .ref (ad 109)), (1, .int y1), (2, .int y2)]) hx hb dX7_formed_206 hl (k := 7) rfl rfl (by decide) rfl (fun ls hl => ?_)
            refine lv_goto (tgt := 6) hx hb dX7_formed_209 (by decide) ?_
            exact ih (y1) (y2) ((y3 + (-1))) ((y4 + 1)) hM hw (lv_sub hl [5, 6, 7, 3, 0] rfl)
        · replace hM := h_t hc hM
          refine lv_aload_n hx hb dX7_formed_120 rfl (lv_at hl 1 rfl) ?_
          refine a_getp (q := 123) (σ := aG ι) (o := 109) (T := TX7) (N := 20) C wU_X7 hw rfl (by decide) rfl 16 (by decide) rfl wF_X7_31 (aG_P rfl rfl) dX7_formed_121 ?_
          refine lv_iload_n hx hb dX7_formed_124 rfl (lv_at hl 4 rfl) ?_
          refine lv_iconst (v := (1 : Int32)) hx hb dX7_formed_125 (by decide) ?_
          refine lv_isub hx hb dX7_formed_126 ?_
          refine lv_aload_n hx hb dX7_formed_127 rfl (lv_at hl 1 rfl) ?_
          refine a_getp (q := 123) (σ := aG ι) (o := 109) (T := TX7) (N := 20) C wU_X7 hw rfl (by decide) rfl 16 (by decide) rfl wF_X7_31 (aG_P rfl rfl) dX7_formed_128 ?_
          refine lv_iload_n hx hb dX7_formed_131 rfl (lv_at hl 4 rfl) ?_
          refine lv_iconst (v := (1 : Int32)) hx hb dX7_formed_132 (by decide) ?_
          refine lv_isub hx hb dX7_formed_133 ?_
          obtain ⟨hi, hM⟩ := h_i hM
          refine a_lald (σ := aG ι) (o := 123) C hw rfl hi rfl dX7_formed_134 ?_
          refine lv_lneg hx hb dX7_formed_135 ?_
          obtain ⟨hi, hM⟩ := h_i hM
          refine a_last (σ := aG ι) (o := 123) C hw rfl hi rfl dX7_formed_136 (fun H locs hw => ?_)
          have hw : aW D dA ad adV (aG (pJ ι 123 (y3 - (1 : Int32)).toNatClampNeg (-(gJ ι 123 (y3 - (1 : Int32)).toNatClampNeg)))) A s H locs := hw
          refine lv_goto (tgt := 206) hx hb dX7_formed_137 (by decide) ?_
          refine lv_iinc (v := (y4 + 1)) (lv' := [(4, .int (y4 + 1)), (5, .int (gI ι 112 y4.toNatClampNeg)), (0, .ref (ad 109)), (1, .int y1), (2, .int y2), (3, .int y3)]) hx hb dX7_formed_206 hl (k := 5) rfl rfl (by decide) rfl (fun ls hl => ?_)
          refine lv_goto (tgt := 6) hx hb dX7_formed_209 (by decide) ?_
          exact ih (y1) (y2) (y3) ((y4 + 1)) hM hw (lv_sub hl [2, 3, 4, 5, 0] rfl)
      · replace hM := h_f hc hM
        refine lv_iinc (v := (y4 + 1)) (lv' := [(4, .int (y4 + 1)), (5, .int (gI ι 112 y4.toNatClampNeg)), (0, .ref (ad 109)), (1, .int y1), (2, .int y2), (3, .int y3)]) hx hb dX7_formed_31 hl (k := 5) rfl rfl (by decide) rfl (fun ls hl => ?_)
        refine lv_aload_n hx hb dX7_formed_34 rfl (lv_at hl 2 rfl) ?_
        refine a_getp (q := 112) (σ := aG ι) (o := 109) (T := TX7) (N := 20) C wU_X7 hw rfl (by decide) rfl 9 (by decide) rfl wF_X7_20 (aG_P rfl rfl) dX7_formed_35 ?_
        refine lv_iload hx hb dX7_formed_38 (lv_at hl 0 rfl) ?_
        obtain ⟨hi, hM⟩ := h_i hM
        refine a_iald (σ := aG ι) (o := 112) C hw rfl hi rfl dX7_formed_40 ?_
        refine lv_istore (lv' := [(6, .int (gI ι 112 (y4 + 1).toNatClampNeg)), (4, .int (y4 + 1)), (5, .int (gI ι 112 y4.toNatClampNeg)), (0, .ref (ad 109)), (1, .int y1), (2, .int y2), (3, .int y3)]) hx hb dX7_formed_41 hl (by decide) rfl (fun ls hl => ?_)
        refine lv_aload_n hx hb dX7_formed_43 rfl (lv_at hl 3 rfl) ?_
        refine a_getp (q := 123) (σ := aG ι) (o := 109) (T := TX7) (N := 20) C wU_X7 hw rfl (by decide) rfl 16 (by decide) rfl wF_X7_31 (aG_P rfl rfl) dX7_formed_44 ?_
        refine lv_iload_n hx hb dX7_formed_47 rfl (lv_at hl 6 rfl) ?_
        refine lv_iload hx hb dX7_formed_48 (lv_at hl 2 rfl) ?_
        refine lv_iconst (v := (1 : Int32)) hx hb dX7_formed_50 (by decide) ?_
        refine lv_icmp_ne (tgt := 60) hx hb dX7_formed_51 (by decide) (fun hc => ?_) (fun hc => ?_)
        · replace hM := h_f hc hM
          refine lv_iload hx hb dX7_formed_60 (lv_at hl 2 rfl) ?_
          refine lv_iconst (v := (2 : Int32)) hx hb dX7_formed_62 (by decide) ?_
          refine lv_icmp_ne (tgt := 77) hx hb dX7_formed_63 (by decide) (fun hc => ?_) (fun hc => ?_)
          · replace hM := h_f hc hM
            refine lv_iload hx hb dX7_formed_77 (lv_at hl 2 rfl) ?_
            refine lv_iconst (v := (3 : Int32)) hx hb dX7_formed_79 (by decide) ?_
            refine lv_icmp_ne (tgt := 95) hx hb dX7_formed_80 (by decide) (fun hc => ?_) (fun hc => ?_)
            · replace hM := h_f hc hM
              refine lv_aload_n hx hb dX7_formed_95 rfl (lv_at hl 3 rfl) ?_
              refine a_getp (q := 112) (σ := aG ι) (o := 109) (T := TX7) (N := 20) C wU_X7 hw rfl (by decide) rfl 9 (by decide) rfl wF_X7_20 (aG_P rfl rfl) dX7_formed_96 ?_
              refine lv_bipush (v := (94 : Int32)) hx hb dX7_formed_99 (by decide) ?_
              refine lv_iload hx hb dX7_formed_101 (lv_at hl 0 rfl) ?_
              refine lv_iadd hx hb dX7_formed_103 ?_
              obtain ⟨hi, hM⟩ := h_i hM
              refine a_iald (σ := aG ι) (o := 112) C hw rfl hi rfl dX7_formed_104 ?_
              refine lv_i2l hx hb dX7_formed_105 rfl ?_
              obtain ⟨hi, hM⟩ := h_i hM
              refine a_last (σ := aG ι) (o := 123) C hw rfl hi rfl dX7_formed_106 (fun H locs hw => ?_)
              have hw : aW D dA ad adV (aG (pJ ι 123 y3.toNatClampNeg ((gI ι 112 ((94 : Int32) + (gI ι 112 (y4 + 1).toNatClampNeg)).toNatClampNeg)).toInt64)) A s H locs := hw
              refine lv_iinc (v := (y3 + 1)) (lv' := [(3, .int (y3 + 1)), (6, .int (gI ι 112 (y4 + 1).toNatClampNeg)), (4, .int (y4 + 1)), (5, .int (gI ι 112 y4.toNatClampNeg)), (0, .ref (ad 109)), (1, .int y1), (2, .int y2)]) hx hb dX7_formed_107 hl (k := 6) rfl rfl (by decide) rfl (fun ls hl => ?_)
              refine lv_goto (tgt := 206) hx hb dX7_formed_110 (by decide) ?_
              refine lv_iinc (v := ((y4 + 1) + 1)) (lv' := [(4, .int ((y4 + 1) + 1)), (3, .int (y3 + 1)), (6, .int (gI ι 112 (y4 + 1).toNatClampNeg)), (5, .int (gI ι 112 y4.toNatClampNeg)), (0, .ref (ad 109)), (1, .int y1), (2, .int y2)]) hx hb dX7_formed_206 hl (k := 2) rfl rfl (by decide) rfl (fun ls hl => ?_)
              refine lv_goto (tgt := 6) hx hb dX7_formed_209 (by decide) ?_
              exact ih (y1) (y2) ((y3 + 1)) (((y4 + 1) + 1)) hM hw (lv_sub hl [4, 5, 6, 1, 0] rfl)
            · replace hM := h_t hc hM
              refine lv_aload_n hx hb dX7_formed_83 rfl (lv_at hl 3 rfl) ?_
              refine lv_iload_n hx hb dX7_formed_84 rfl (lv_at hl 4 rfl) ?_
              refine lv_iload hx hb dX7_formed_85 (lv_at hl 0 rfl) ?_
              refine lv_iload_n hx hb dX7_formed_87 rfl (lv_at hl 5 rfl) ?_
              obtain ⟨r88, hr88, hM⟩ := h_b hM
              refine a_callV (σ' := aG r88.2) (v := (some (.int r88.1))) (As := fun ad => [.int y1, .int (gI ι 112 (y4 + 1).toNatClampNeg), .int y2]) (rest := [.int y3, .ref (ad 123)]) (o := 109) C hw (c_X7_offOf l hr88) k_X7_offOf wM_X7_190 ⟨⟨rfl, rfl⟩, ⟨Nat.le_of_ble_eq_true rfl, Nat.le_of_ble_eq_true rfl⟩⟩ rfl (by decide) rfl rfl rfl hl rfl (Nat.le_of_ble_eq_true rfl) dX7_formed_88 ⟨Nat.zero_le _, Nat.zero_le _⟩ (fun H locs hw => ?_)
              refine lv_i2l hx hb dX7_formed_91 rfl ?_
              refine lv_goto (tgt := 106) hx hb dX7_formed_92 (by decide) ?_
              obtain ⟨hi, hM⟩ := h_i hM
              refine a_last (σ := aG r88.2) (o := 123) C hw rfl hi rfl dX7_formed_106 (fun H locs hw => ?_)
              have hw : aW D dA ad adV (aG (pJ r88.2 123 y3.toNatClampNeg (r88.1).toInt64)) A s H locs := hw
              refine lv_iinc (v := (y3 + 1)) (lv' := [(3, .int (y3 + 1)), (6, .int (gI ι 112 (y4 + 1).toNatClampNeg)), (4, .int (y4 + 1)), (5, .int (gI ι 112 y4.toNatClampNeg)), (0, .ref (ad 109)), (1, .int y1), (2, .int y2)]) hx hb dX7_formed_107 hl (k := 6) rfl rfl (by decide) rfl (fun ls hl => ?_)
              refine lv_goto (tgt := 206) hx hb dX7_formed_110 (by decide) ?_
              refine lv_iinc (v := ((y4 + 1) + 1)) (lv' := [(4, .int ((y4 + 1) + 1)), (3, .int (y3 + 1)), (6, .int (gI ι 112 (y4 + 1).toNatClampNeg)), (5, .int (gI ι 112 y4.toNatClampNeg)), (0, .ref (ad 109)), (1, .int y1), (2, .int y2)]) hx hb dX7_formed_206 hl (k := 2) rfl rfl (by decide) rfl (fun ls hl => ?_)
              refine lv_goto (tgt := 6) hx hb dX7_formed_209 (by decide) ?_
              exact ih (y1) (y2) ((y3 + 1)) (((y4 + 1) + 1)) hM hw (lv_sub hl [4, 5, 6, 1, 0] rfl)
          · replace hM := h_t hc hM
            refine lv_aload_n hx hb dX7_formed_66 rfl (lv_at hl 3 rfl) ?_
            refine lv_iload_n hx hb dX7_formed_67 rfl (lv_at hl 4 rfl) ?_
            refine lv_iload hx hb dX7_formed_68 (lv_at hl 0 rfl) ?_
            obtain ⟨r70, hr70, hM⟩ := h_b hM
            refine a_callV (σ' := aG r70.2) (v := (some (.int r70.1))) (As := fun ad => [.int y1, .int (gI ι 112 (y4 + 1).toNatClampNeg)]) (rest := [.int y3, .ref (ad 123)]) (o := 109) C hw (c_X7_valueOf l hr70) k_X7_valueOf wM_X7_183 ⟨⟨rfl, rfl⟩, ⟨Nat.le_of_ble_eq_true rfl, Nat.le_of_ble_eq_true rfl⟩⟩ rfl (by decide) rfl rfl rfl hl rfl (Nat.le_of_ble_eq_true rfl) dX7_formed_70 ⟨Nat.zero_le _, Nat.zero_le _⟩ (fun H locs hw => ?_)
            refine lv_i2l hx hb dX7_formed_73 rfl ?_
            refine lv_goto (tgt := 106) hx hb dX7_formed_74 (by decide) ?_
            obtain ⟨hi, hM⟩ := h_i hM
            refine a_last (σ := aG r70.2) (o := 123) C hw rfl hi rfl dX7_formed_106 (fun H locs hw => ?_)
            have hw : aW D dA ad adV (aG (pJ r70.2 123 y3.toNatClampNeg (r70.1).toInt64)) A s H locs := hw
            refine lv_iinc (v := (y3 + 1)) (lv' := [(3, .int (y3 + 1)), (6, .int (gI ι 112 (y4 + 1).toNatClampNeg)), (4, .int (y4 + 1)), (5, .int (gI ι 112 y4.toNatClampNeg)), (0, .ref (ad 109)), (1, .int y1), (2, .int y2)]) hx hb dX7_formed_107 hl (k := 6) rfl rfl (by decide) rfl (fun ls hl => ?_)
            refine lv_goto (tgt := 206) hx hb dX7_formed_110 (by decide) ?_
            refine lv_iinc (v := ((y4 + 1) + 1)) (lv' := [(4, .int ((y4 + 1) + 1)), (3, .int (y3 + 1)), (6, .int (gI ι 112 (y4 + 1).toNatClampNeg)), (5, .int (gI ι 112 y4.toNatClampNeg)), (0, .ref (ad 109)), (1, .int y1), (2, .int y2)]) hx hb dX7_formed_206 hl (k := 2) rfl rfl (by decide) rfl (fun ls hl => ?_)
            refine lv_goto (tgt := 6) hx hb dX7_formed_209 (by decide) ?_
            exact ih (y1) (y2) ((y3 + 1)) (((y4 + 1) + 1)) hM hw (lv_sub hl [4, 5, 6, 1, 0] rfl)
        · replace hM := h_t hc hM
          refine lv_iload hx hb dX7_formed_54 (lv_at hl 0 rfl) ?_
          refine lv_i2l hx hb dX7_formed_56 rfl ?_
          refine lv_goto (tgt := 106) hx hb dX7_formed_57 (by decide) ?_
          obtain ⟨hi, hM⟩ := h_i hM
          refine a_last (σ := aG ι) (o := 123) C hw rfl hi rfl dX7_formed_106 (fun H locs hw => ?_)
          have hw : aW D dA ad adV (aG (pJ ι 123 y3.toNatClampNeg ((gI ι 112 (y4 + 1).toNatClampNeg)).toInt64)) A s H locs := hw
          refine lv_iinc (v := (y3 + 1)) (lv' := [(3, .int (y3 + 1)), (6, .int (gI ι 112 (y4 + 1).toNatClampNeg)), (4, .int (y4 + 1)), (5, .int (gI ι 112 y4.toNatClampNeg)), (0, .ref (ad 109)), (1, .int y1), (2, .int y2)]) hx hb dX7_formed_107 hl (k := 6) rfl rfl (by decide) rfl (fun ls hl => ?_)
          refine lv_goto (tgt := 206) hx hb dX7_formed_110 (by decide) ?_
          refine lv_iinc (v := ((y4 + 1) + 1)) (lv' := [(4, .int ((y4 + 1) + 1)), (3, .int (y3 + 1)), (6, .int (gI ι 112 (y4 + 1).toNatClampNeg)), (5, .int (gI ι 112 y4.toNatClampNeg)), (0, .ref (ad 109)), (1, .int y1), (2, .int y2)]) hx hb dX7_formed_206 hl (k := 2) rfl rfl (by decide) rfl (fun ls hl => ?_)
          refine lv_goto (tgt := 6) hx hb dX7_formed_209 (by decide) ?_
          exact ih (y1) (y2) ((y3 + 1)) (((y4 + 1) + 1)) hM hw (lv_sub hl [4, 5, 6, 1, 0] rfl)
theorem k_X7_formed : aCal RX7 yX7_formed cX7_formed 10 (some .long) 2 := ⟨wI_yX7_formed, wE_yX7_formed, wZ_X7, wC_yX7_formed, by decide +kernel⟩
set_option maxHeartbeats 4000000 in
set_option maxRecDepth 100000 in
theorem c_X7_formed (l : Launch) {x1 : Int32} {x2 : Int32} {ι : iS} {res : Int64 × iS} (hM : m_X7_formed x1 x2 ι = some res) : aM l yX7_formed cX7_formed 10 (some .long) rm_X7_formed (fun ad => [.ref (ad 109), .int x1, .int x2]) (aG ι) (some (.long res.1)) (aG res.2) := by
  refine aM.of (by decide) (fun _ => Nat.le_of_ble_eq_true rfl) ?_
  intro p e s m args below meth c D dA ad adV A ls C hw hl
  have C : aX p m c cX7_formed 10 s args aTs RX7 meth (some .long) := C
  have hx := C.1.1
  have hb := C.1.2.1
  have hml := C.1.2.2.1
  have hown := C.1.2.2.2.1
  have hts := C.1.2.2.2.2
  have hl : lv_has ls 10 [(0, .ref (ad 109)), (1, .int x1), (2, .int x2)] := hl
  unfold m_X7_formed at hM
  refine lv_iconst (v := (0 : Int32)) hx hb dX7_formed_0 (by decide) ?_
  refine lv_istore_n (lv' := [(3, .int (0 : Int32)), (0, .ref (ad 109)), (1, .int x1), (2, .int x2)]) hx hb dX7_formed_1 rfl hl (by decide) rfl (fun ls hl => ?_)
  refine lv_bipush (v := (123 : Int32)) hx hb dX7_formed_2 (by decide) ?_
  refine lv_istore (lv' := [(4, .int (123 : Int32)), (3, .int (0 : Int32)), (0, .ref (ad 109)), (1, .int x1), (2, .int x2)]) hx hb dX7_formed_4 hl (by decide) rfl (fun ls hl => ?_)
  exact tl_X7_formed_6 l C aF (x1) (x2) ((0 : Int32)) ((123 : Int32)) hM hw (lv_sub hl [2, 3, 4, 1, 0] rfl)
def rm_X7_matchOf : Room := { frames := 3, cells := 0, slots := 0, locals := 75 }
set_option maxHeartbeats 4000000 in
set_option maxRecDepth 100000 in
theorem tl_X7_matchOf_5 (l : Launch) {p : Program} {e : Env} {s : State} {m : MethodId} {args : Array Value} {below : List Frame} {meth : Method} {c : Code} {D : va_G} {dA : Nat → ClassId} {ad adV : Nat → Nat} {A : Nat → Prop} (C : aX p m c cX7_matchOf 6 s args aTs RX7 meth (some .int)) {res : Int32 × iS} : ∀ (n : Nat) (y1 : Int32) (y2 : Int32) (y3 : Int64) (y5 : Int32) {ι : iS}, l_X7_matchOf_5 n y1 y2 y3 y5 ι = some res → ∀ {H : Heap} {locs : List Loc} {ls : Array Slot}, aW D dA ad adV (aG ι) A s H locs → lv_has ls 6 [(0, .ref (ad 109)), (1, .int y1), (2, .int y2), (3, .long y3), (5, .int y5)] → W p l e rm_X7_matchOf s m args below meth c H locs 0 0 (MQ below (aQ D dA ad (aG res.2) A (some (.int res.1))) args s 0 0 A) (F0 m 5 ls []) := by
  have hx := C.1.1
  have hb := C.1.2.1
  have hml := C.1.2.2.1
  have hown := C.1.2.2.2.1
  have hts := C.1.2.2.2.2
  intro n
  induction n with
  | zero => intro y1 y2 y3 y5 ι hM; simp [l_X7_matchOf_5] at hM
  | succ n ih =>
    intro y1 y2 y3 y5 ι hM H locs ls hw hl
    rw [l_X7_matchOf_5] at hM
    refine lv_iload hx hb dX7_matchOf_5 (lv_at hl 4 rfl) ?_
    refine lv_aload_n hx hb dX7_matchOf_7 rfl (lv_at hl 0 rfl) ?_
    refine a_getp (q := 112) (σ := aG ι) (o := 109) (T := TX7) (N := 20) C wU_X7 hw rfl (by decide) rfl 9 (by decide) rfl wF_X7_20 (aG_P rfl rfl) dX7_matchOf_8 ?_
    refine lv_iconst (v := (0 : Int32)) hx hb dX7_matchOf_11 (by decide) ?_
    refine a_iald (σ := aG ι) (o := 112) C hw rfl (aIn_v (by decide)) (show (0 : Int32).toNatClampNeg = 0 by decide) dX7_matchOf_12 ?_
    refine lv_icmp_ge (tgt := 48) hx hb dX7_matchOf_13 (by decide) (fun hc => ?_) (fun hc => ?_)
    · replace hM := h_t hc hM
      refine lv_aload_n hx hb dX7_matchOf_48 rfl (lv_at hl 0 rfl) ?_
      refine a_getp (q := 112) (σ := aG ι) (o := 109) (T := TX7) (N := 20) C wU_X7 hw rfl (by decide) rfl 9 (by decide) rfl wF_X7_20 (aG_P rfl rfl) dX7_matchOf_49 ?_
      refine lv_bipush (v := (8 : Int32)) hx hb dX7_matchOf_52 (by decide) ?_
      refine a_iald (σ := aG ι) (o := 112) C hw rfl (aIn_v (by decide)) (show (8 : Int32).toNatClampNeg = 8 by decide) dX7_matchOf_54 ?_
      refine lv_iconst (v := (1 : Int32)) hx hb dX7_matchOf_55 (by decide) ?_
      refine lv_icmp_ne (tgt := 66) hx hb dX7_matchOf_56 (by decide) (fun hc => ?_) (fun hc => ?_)
      · replace hM := h_f hc hM
        refine lv_lload_n hx hb dX7_matchOf_66 rfl (lv_at hl 3 rfl) ?_
        refine lv_lconst (v := (0 : Int64)) hx hb dX7_matchOf_67 (by decide) ?_
        refine W.lcmp hx hb dX7_matchOf_68 ?_
        refine lv_if_ge (tgt := 76) hx hb dX7_matchOf_69 (by decide) (fun hc => ?_) (fun hc => ?_)
        · replace hM := h_t hc hM
          refine lv_lload_n hx hb dX7_matchOf_76 rfl (lv_at hl 3 rfl) ?_
          refine lv_ldc2 (v := (99 : Int64)) hx hb hown (hts _ wQ_X7_202) dX7_matchOf_77 ?_
          refine W.lcmp hx hb dX7_matchOf_80 ?_
          refine lv_if_le (tgt := 89) hx hb dX7_matchOf_81 (by decide) (fun hc => ?_) (fun hc => ?_)
          · replace hM := h_t hc hM
            refine lv_lload_n hx hb dX7_matchOf_89 rfl (lv_at hl 3 rfl) ?_
            refine lv_l2i hx hb dX7_matchOf_90 rfl ?_
            cases h_e hM
            exact a_iret C hw dX7_matchOf_91
          · replace hM := h_f hc hM
            refine lv_bipush (v := (99 : Int32)) hx hb dX7_matchOf_84 (by decide) ?_
            refine lv_goto (tgt := 91) hx hb dX7_matchOf_86 (by decide) ?_
            cases h_e hM
            exact a_iret C hw dX7_matchOf_91
        · replace hM := h_f hc hM
          refine lv_iconst (v := (0 : Int32)) hx hb dX7_matchOf_72 (by decide) ?_
          refine lv_goto (tgt := 91) hx hb dX7_matchOf_73 (by decide) ?_
          cases h_e hM
          exact a_iret C hw dX7_matchOf_91
      · replace hM := h_t hc hM
        refine lv_aload_n hx hb dX7_matchOf_59 rfl (lv_at hl 0 rfl) ?_
        refine lv_iload_n hx hb dX7_matchOf_60 rfl (lv_at hl 1 rfl) ?_
        refine lv_iload_n hx hb dX7_matchOf_61 rfl (lv_at hl 2 rfl) ?_
        obtain ⟨r62, hr62, hM⟩ := h_b hM
        refine a_callV (σ' := aG r62.2) (v := (some (.long r62.1))) (As := fun ad => [.int y1, .int y2]) (rest := []) (o := 109) C hw (c_X7_formed l hr62) k_X7_formed wM_X7_198 ⟨⟨rfl, rfl⟩, ⟨Nat.le_of_ble_eq_true rfl, Nat.le_of_ble_eq_true rfl⟩⟩ rfl (by decide) rfl rfl rfl hl rfl (Nat.le_of_ble_eq_true rfl) dX7_matchOf_62 ⟨Nat.zero_le _, Nat.zero_le _⟩ (fun H locs hw => ?_)
        refine lv_lstore_n (lv' := [(3, .long r62.1), (0, .ref (ad 109)), (1, .int y1), (2, .int y2), (5, .int y5)]) hx hb dX7_matchOf_65 rfl hl (by decide) rfl (fun ls hl => ?_)
        refine lv_lload_n hx hb dX7_matchOf_66 rfl (lv_at hl 0 rfl) ?_
        refine lv_lconst (v := (0 : Int64)) hx hb dX7_matchOf_67 (by decide) ?_
        refine W.lcmp hx hb dX7_matchOf_68 ?_
        refine lv_if_ge (tgt := 76) hx hb dX7_matchOf_69 (by decide) (fun hc => ?_) (fun hc => ?_)
        · replace hM := h_t hc hM
          refine lv_lload_n hx hb dX7_matchOf_76 rfl (lv_at hl 0 rfl) ?_
          refine lv_ldc2 (v := (99 : Int64)) hx hb hown (hts _ wQ_X7_202) dX7_matchOf_77 ?_
          refine W.lcmp hx hb dX7_matchOf_80 ?_
          refine lv_if_le (tgt := 89) hx hb dX7_matchOf_81 (by decide) (fun hc => ?_) (fun hc => ?_)
          · replace hM := h_t hc hM
            refine lv_lload_n hx hb dX7_matchOf_89 rfl (lv_at hl 0 rfl) ?_
            refine lv_l2i hx hb dX7_matchOf_90 rfl ?_
            cases h_e hM
            exact a_iret C hw dX7_matchOf_91
          · replace hM := h_f hc hM
            refine lv_bipush (v := (99 : Int32)) hx hb dX7_matchOf_84 (by decide) ?_
            refine lv_goto (tgt := 91) hx hb dX7_matchOf_86 (by decide) ?_
            cases h_e hM
            exact a_iret C hw dX7_matchOf_91
        · replace hM := h_f hc hM
          refine lv_iconst (v := (0 : Int32)) hx hb dX7_matchOf_72 (by decide) ?_
          refine lv_goto (tgt := 91) hx hb dX7_matchOf_73 (by decide) ?_
          cases h_e hM
          exact a_iret C hw dX7_matchOf_91
    · replace hM := h_f hc hM
      refine lv_lload_n hx hb dX7_matchOf_16 rfl (lv_at hl 3 rfl) ?_
      refine lv_aload_n hx hb dX7_matchOf_17 rfl (lv_at hl 0 rfl) ?_
      refine a_getp (q := 112) (σ := aG ι) (o := 109) (T := TX7) (N := 20) C wU_X7 hw rfl (by decide) rfl 9 (by decide) rfl wF_X7_20 (aG_P rfl rfl) dX7_matchOf_18 ?_
      refine lv_bipush (v := (94 : Int32)) hx hb dX7_matchOf_21 (by decide) ?_
      refine lv_iload hx hb dX7_matchOf_23 (lv_at hl 4 rfl) ?_
      refine lv_iadd hx hb dX7_matchOf_25 ?_
      obtain ⟨hi, hM⟩ := h_i hM
      refine a_iald (σ := aG ι) (o := 112) C hw rfl hi rfl dX7_matchOf_26 ?_
      refine lv_bipush (v := (9 : Int32)) hx hb dX7_matchOf_27 (by decide) ?_
      refine lv_aload_n hx hb dX7_matchOf_29 rfl (lv_at hl 0 rfl) ?_
      refine lv_iload_n hx hb dX7_matchOf_30 rfl (lv_at hl 1 rfl) ?_
      refine lv_iload hx hb dX7_matchOf_31 (lv_at hl 4 rfl) ?_
      refine lv_iload_n hx hb dX7_matchOf_33 rfl (lv_at hl 2 rfl) ?_
      obtain ⟨r34, hr34, hM⟩ := h_b hM
      refine a_callV (σ' := aG r34.2) (v := (some (.int r34.1))) (As := fun ad => [.int y1, .int y5, .int y2]) (rest := [.int (9 : Int32), .int (gI ι 112 ((94 : Int32) + y5).toNatClampNeg), .long y3]) (o := 109) C hw (c_X7_offOf l hr34) k_X7_offOf wM_X7_190 ⟨⟨rfl, rfl⟩, ⟨Nat.le_of_ble_eq_true rfl, Nat.le_of_ble_eq_true rfl⟩⟩ rfl (by decide) rfl rfl rfl hl rfl (Nat.le_of_ble_eq_true rfl) dX7_matchOf_34 ⟨Nat.zero_le _, Nat.zero_le _⟩ (fun H locs hw => ?_)
      refine lv_isub hx hb dX7_matchOf_37 ?_
      refine lv_imul hx hb dX7_matchOf_38 ?_
      refine lv_i2l hx hb dX7_matchOf_39 rfl ?_
      refine lv_ladd hx hb dX7_matchOf_40 ?_
      refine lv_lstore_n (lv' := [(3, .long (y3 + (((gI ι 112 ((94 : Int32) + y5).toNatClampNeg) * ((9 : Int32) - r34.1))).toInt64)), (0, .ref (ad 109)), (1, .int y1), (2, .int y2), (5, .int y5)]) hx hb dX7_matchOf_41 rfl hl (by decide) rfl (fun ls hl => ?_)
      refine lv_iinc (v := (y5 + 1)) (lv' := [(5, .int (y5 + 1)), (3, .long (y3 + (((gI ι 112 ((94 : Int32) + y5).toNatClampNeg) * ((9 : Int32) - r34.1))).toInt64)), (0, .ref (ad 109)), (1, .int y1), (2, .int y2)]) hx hb dX7_matchOf_42 hl (k := 4) rfl rfl (by decide) rfl (fun ls hl => ?_)
      refine lv_goto (tgt := 5) hx hb dX7_matchOf_45 (by decide) ?_
      exact ih (y1) (y2) ((y3 + (((gI ι 112 ((94 : Int32) + y5).toNatClampNeg) * ((9 : Int32) - r34.1))).toInt64)) ((y5 + 1)) hM hw (lv_sub hl [2, 3, 4, 1, 0] rfl)
theorem k_X7_matchOf : aCal RX7 yX7_matchOf cX7_matchOf 6 (some .int) 2 := ⟨wI_yX7_matchOf, wE_yX7_matchOf, wZ_X7, wC_yX7_matchOf, by decide +kernel⟩
set_option maxHeartbeats 4000000 in
set_option maxRecDepth 100000 in
theorem c_X7_matchOf (l : Launch) {x1 : Int32} {x2 : Int32} {ι : iS} {res : Int32 × iS} (hM : m_X7_matchOf x1 x2 ι = some res) : aM l yX7_matchOf cX7_matchOf 6 (some .int) rm_X7_matchOf (fun ad => [.ref (ad 109), .int x1, .int x2]) (aG ι) (some (.int res.1)) (aG res.2) := by
  refine aM.of (by decide) (fun _ => Nat.le_of_ble_eq_true rfl) ?_
  intro p e s m args below meth c D dA ad adV A ls C hw hl
  have C : aX p m c cX7_matchOf 6 s args aTs RX7 meth (some .int) := C
  have hx := C.1.1
  have hb := C.1.2.1
  have hml := C.1.2.2.1
  have hown := C.1.2.2.2.1
  have hts := C.1.2.2.2.2
  have hl : lv_has ls 6 [(0, .ref (ad 109)), (1, .int x1), (2, .int x2)] := hl
  unfold m_X7_matchOf at hM
  refine lv_lconst (v := (0 : Int64)) hx hb dX7_matchOf_0 (by decide) ?_
  refine lv_lstore_n (lv' := [(3, .long (0 : Int64)), (0, .ref (ad 109)), (1, .int x1), (2, .int x2)]) hx hb dX7_matchOf_1 rfl hl (by decide) rfl (fun ls hl => ?_)
  refine lv_iconst (v := (0 : Int32)) hx hb dX7_matchOf_2 (by decide) ?_
  refine lv_istore (lv' := [(5, .int (0 : Int32)), (3, .long (0 : Int64)), (0, .ref (ad 109)), (1, .int x1), (2, .int x2)]) hx hb dX7_matchOf_3 hl (by decide) rfl (fun ls hl => ?_)
  exact tl_X7_matchOf_5 l C aF (x1) (x2) ((0 : Int64)) ((0 : Int32)) hM hw (lv_sub hl [2, 3, 4, 1, 0] rfl)
def rm_X7_remembers : Room := { frames := 1, cells := 0, slots := 0, locals := 22 }
set_option maxHeartbeats 4000000 in
set_option maxRecDepth 100000 in
theorem tl_X7_remembers_11 (l : Launch) {p : Program} {e : Env} {s : State} {m : MethodId} {args : Array Value} {below : List Frame} {meth : Method} {c : Code} {D : va_G} {dA : Nat → ClassId} {ad adV : Nat → Nat} {A : Nat → Prop} (C : aX p m c cX7_remembers 2 s args aTs RX7 meth none) {res : iS} : ∀ (n : Nat) (y1 : Int32) {ι : iS}, l_X7_remembers_11 n y1 ι = some res → ∀ {H : Heap} {locs : List Loc} {ls : Array Slot}, aW D dA ad adV (aG ι) A s H locs → lv_has ls 2 [(0, .ref (ad 109)), (1, .int y1)] → W p l e rm_X7_remembers s m args below meth c H locs 0 0 (MQ below (aQ D dA ad (aG res) A none) args s 0 0 A) (F0 m 11 ls []) := by
  have hx := C.1.1
  have hb := C.1.2.1
  have hml := C.1.2.2.1
  have hown := C.1.2.2.2.1
  have hts := C.1.2.2.2.2
  intro n
  induction n with
  | zero => intro y1 ι hM; simp [l_X7_remembers_11] at hM
  | succ n ih =>
    intro y1 ι hM H locs ls hw hl
    rw [l_X7_remembers_11] at hM
    refine lv_iload_n hx hb dX7_remembers_11 rfl (lv_at hl 1 rfl) ?_
    refine lv_bipush (v := (8 : Int32)) hx hb dX7_remembers_12 (by decide) ?_
    refine lv_icmp_ge (tgt := 40) hx hb dX7_remembers_14 (by decide) (fun hc => ?_) (fun hc => ?_)
    · replace hM := h_t hc hM
      refine lv_aload_n hx hb dX7_remembers_40 rfl (lv_at hl 0 rfl) ?_
      refine lv_dup hx hb dX7_remembers_41 rfl ?_
      refine a_geti (σ := aG ι) (o := 109) (T := TX7) (N := 20) C wU_X7 hw rfl (by decide) rfl 12 (by decide) rfl wF_X7_204 dX7_remembers_42 ?_
      refine lv_iconst (v := (1 : Int32)) hx hb dX7_remembers_45 (by decide) ?_
      refine lv_isub hx hb dX7_remembers_46 ?_
      refine a_puti (ty := .int) (σ := aG ι) (o := 109) (T := TX7) (N := 20) (ty0 := tyX7) C wU_X7 tyX7_ok nmX7 hw rfl (by decide) rfl 12 (by decide) rfl wF_X7_204 rfl (by decide +kernel) rfl rfl dX7_remembers_47 (fun H locs hw => ?_)
      have hw : aW D dA ad adV (aG (pI ι 109 12 ((gI ι 109 12) - (1 : Int32)))) A s H locs := hw
      refine lv_aload_n hx hb dX7_remembers_50 rfl (lv_at hl 0 rfl) ?_
      refine a_getp (q := 112) (σ := aG (pI ι 109 12 ((gI ι 109 12) - (1 : Int32)))) (o := 109) (T := TX7) (N := 20) C wU_X7 hw rfl (by decide) rfl 9 (by decide) rfl wF_X7_20 (aG_P rfl rfl) dX7_remembers_51 ?_
      refine lv_aload_n hx hb dX7_remembers_54 rfl (lv_at hl 0 rfl) ?_
      refine a_getp (q := 114) (σ := aG (pI ι 109 12 ((gI ι 109 12) - (1 : Int32)))) (o := 109) (T := TX7) (N := 20) C wU_X7 hw rfl (by decide) rfl 11 (by decide) rfl wF_X7_28 (aG_P rfl rfl) dX7_remembers_55 ?_
      refine lv_aload_n hx hb dX7_remembers_58 rfl (lv_at hl 0 rfl) ?_
      refine a_geti (σ := aG (pI ι 109 12 ((gI ι 109 12) - (1 : Int32)))) (o := 109) (T := TX7) (N := 20) C wU_X7 hw rfl (by decide) rfl 12 (by decide) rfl wF_X7_204 dX7_remembers_59 ?_
      obtain ⟨hi, hM⟩ := h_i hM
      obtain ⟨hr62a, hr62b⟩ := a114 hi
      refine a_rald (σ := aG (pI ι 109 12 ((gI ι 109 12) - (1 : Int32)))) (o := 114) (q := (115 + (gI (pI ι 109 12 ((gI ι 109 12) - (1 : Int32))) 109 12).toNatClampNeg)) C hw rfl hi rfl (aG_P hr62a.1 hr62a.2) dX7_remembers_62 ?_
      obtain ⟨r63, hr63, hM⟩ := h_b hM
      refine a_callS  (σ' := aG r63) (v := none) (as := fun ad => [.ref (ad 112), .ref (ad (115 + (gI (pI ι 109 12 ((gI ι 109 12) - (1 : Int32))) 109 12).toNatClampNeg))]) (rest := []) C hw (c_X7_copies l (rfl) (hr62b) hr63) k_X7_copies wM_X7_176 ⟨⟨rfl, rfl⟩, ⟨Nat.le_of_ble_eq_true rfl, Nat.le_of_ble_eq_true rfl⟩⟩ rfl hl rfl (Nat.le_of_ble_eq_true rfl) dX7_remembers_63 ⟨Nat.zero_le _, Nat.zero_le _⟩ (fun H locs hw => ?_)
      refine lv_aload_n hx hb dX7_remembers_66 rfl (lv_at hl 0 rfl) ?_
      refine lv_dup hx hb dX7_remembers_67 rfl ?_
      refine a_geti (σ := aG r63) (o := 109) (T := TX7) (N := 20) C wU_X7 hw rfl (by decide) rfl 12 (by decide) rfl wF_X7_204 dX7_remembers_68 ?_
      refine lv_iconst (v := (1 : Int32)) hx hb dX7_remembers_71 (by decide) ?_
      refine lv_iadd hx hb dX7_remembers_72 ?_
      refine a_puti (ty := .int) (σ := aG r63) (o := 109) (T := TX7) (N := 20) (ty0 := tyX7) C wU_X7 tyX7_ok nmX7 hw rfl (by decide) rfl 12 (by decide) rfl wF_X7_204 rfl (by decide +kernel) rfl rfl dX7_remembers_73 (fun H locs hw => ?_)
      have hw : aW D dA ad adV (aG (pI r63 109 12 ((gI r63 109 12) + (1 : Int32)))) A s H locs := hw
      cases h_e hM
      exact a_vret C hw dX7_remembers_76
    · replace hM := h_f hc hM
      refine lv_aload_n hx hb dX7_remembers_17 rfl (lv_at hl 0 rfl) ?_
      refine a_getp (q := 114) (σ := aG ι) (o := 109) (T := TX7) (N := 20) C wU_X7 hw rfl (by decide) rfl 11 (by decide) rfl wF_X7_28 (aG_P rfl rfl) dX7_remembers_18 ?_
      refine lv_iload_n hx hb dX7_remembers_21 rfl (lv_at hl 1 rfl) ?_
      obtain ⟨hi, hM⟩ := h_i hM
      obtain ⟨hr22a, hr22b⟩ := a114 hi
      refine a_rald (σ := aG ι) (o := 114) (q := (115 + y1.toNatClampNeg)) C hw rfl hi rfl (aG_P hr22a.1 hr22a.2) dX7_remembers_22 ?_
      refine lv_aload_n hx hb dX7_remembers_23 rfl (lv_at hl 0 rfl) ?_
      refine a_getp (q := 114) (σ := aG ι) (o := 109) (T := TX7) (N := 20) C wU_X7 hw rfl (by decide) rfl 11 (by decide) rfl wF_X7_28 (aG_P rfl rfl) dX7_remembers_24 ?_
      refine lv_iload_n hx hb dX7_remembers_27 rfl (lv_at hl 1 rfl) ?_
      refine lv_iconst (v := (1 : Int32)) hx hb dX7_remembers_28 (by decide) ?_
      refine lv_isub hx hb dX7_remembers_29 ?_
      obtain ⟨hi, hM⟩ := h_i hM
      obtain ⟨hr30a, hr30b⟩ := a114 hi
      refine a_rald (σ := aG ι) (o := 114) (q := (115 + (y1 - (1 : Int32)).toNatClampNeg)) C hw rfl hi rfl (aG_P hr30a.1 hr30a.2) dX7_remembers_30 ?_
      obtain ⟨r31, hr31, hM⟩ := h_b hM
      refine a_callS  (σ' := aG r31) (v := none) (as := fun ad => [.ref (ad (115 + y1.toNatClampNeg)), .ref (ad (115 + (y1 - (1 : Int32)).toNatClampNeg))]) (rest := []) C hw (c_X7_copies l (hr22b) (hr30b) hr31) k_X7_copies wM_X7_176 ⟨⟨rfl, rfl⟩, ⟨Nat.le_of_ble_eq_true rfl, Nat.le_of_ble_eq_true rfl⟩⟩ rfl hl rfl (Nat.le_of_ble_eq_true rfl) dX7_remembers_31 ⟨Nat.zero_le _, Nat.zero_le _⟩ (fun H locs hw => ?_)
      refine lv_iinc (v := (y1 + 1)) (lv' := [(1, .int (y1 + 1)), (0, .ref (ad 109))]) hx hb dX7_remembers_34 hl (k := 1) rfl rfl (by decide) rfl (fun ls hl => ?_)
      refine lv_goto (tgt := 11) hx hb dX7_remembers_37 (by decide) ?_
      exact ih ((y1 + 1)) hM hw (lv_sub hl [1, 0] rfl)
theorem k_X7_remembers : aCal RX7 yX7_remembers cX7_remembers 2 none 0 := ⟨wI_yX7_remembers, wE_yX7_remembers, wZ_X7, wC_yX7_remembers, by decide +kernel⟩
set_option maxHeartbeats 4000000 in
set_option maxRecDepth 100000 in
theorem c_X7_remembers (l : Launch) {ι : iS} {res : iS} (hM : m_X7_remembers ι = some res) : aM l yX7_remembers cX7_remembers 2 none rm_X7_remembers (fun ad => [.ref (ad 109)]) (aG ι) none (aG res) := by
  refine aM.of (by decide) (fun _ => Nat.le_of_ble_eq_true rfl) ?_
  intro p e s m args below meth c D dA ad adV A ls C hw hl
  have C : aX p m c cX7_remembers 2 s args aTs RX7 meth none := C
  have hx := C.1.1
  have hb := C.1.2.1
  have hml := C.1.2.2.1
  have hown := C.1.2.2.2.1
  have hts := C.1.2.2.2.2
  have hl : lv_has ls 2 [(0, .ref (ad 109))] := hl
  unfold m_X7_remembers at hM
  refine lv_aload_n hx hb dX7_remembers_0 rfl (lv_at hl 0 rfl) ?_
  refine a_geti (σ := aG ι) (o := 109) (T := TX7) (N := 20) C wU_X7 hw rfl (by decide) rfl 12 (by decide) rfl wF_X7_204 dX7_remembers_1 ?_
  refine lv_bipush (v := (8 : Int32)) hx hb dX7_remembers_4 (by decide) ?_
  refine lv_icmp_ne (tgt := 50) hx hb dX7_remembers_6 (by decide) (fun hc => ?_) (fun hc => ?_)
  · replace hM := h_f hc hM
    refine lv_aload_n hx hb dX7_remembers_50 rfl (lv_at hl 0 rfl) ?_
    refine a_getp (q := 112) (σ := aG ι) (o := 109) (T := TX7) (N := 20) C wU_X7 hw rfl (by decide) rfl 9 (by decide) rfl wF_X7_20 (aG_P rfl rfl) dX7_remembers_51 ?_
    refine lv_aload_n hx hb dX7_remembers_54 rfl (lv_at hl 0 rfl) ?_
    refine a_getp (q := 114) (σ := aG ι) (o := 109) (T := TX7) (N := 20) C wU_X7 hw rfl (by decide) rfl 11 (by decide) rfl wF_X7_28 (aG_P rfl rfl) dX7_remembers_55 ?_
    refine lv_aload_n hx hb dX7_remembers_58 rfl (lv_at hl 0 rfl) ?_
    refine a_geti (σ := aG ι) (o := 109) (T := TX7) (N := 20) C wU_X7 hw rfl (by decide) rfl 12 (by decide) rfl wF_X7_204 dX7_remembers_59 ?_
    obtain ⟨hi, hM⟩ := h_i hM
    obtain ⟨hr62a, hr62b⟩ := a114 hi
    refine a_rald (σ := aG ι) (o := 114) (q := (115 + (gI ι 109 12).toNatClampNeg)) C hw rfl hi rfl (aG_P hr62a.1 hr62a.2) dX7_remembers_62 ?_
    obtain ⟨r63, hr63, hM⟩ := h_b hM
    refine a_callS  (σ' := aG r63) (v := none) (as := fun ad => [.ref (ad 112), .ref (ad (115 + (gI ι 109 12).toNatClampNeg))]) (rest := []) C hw (c_X7_copies l (rfl) (hr62b) hr63) k_X7_copies wM_X7_176 ⟨⟨rfl, rfl⟩, ⟨Nat.le_of_ble_eq_true rfl, Nat.le_of_ble_eq_true rfl⟩⟩ rfl hl rfl (Nat.le_of_ble_eq_true rfl) dX7_remembers_63 ⟨Nat.zero_le _, Nat.zero_le _⟩ (fun H locs hw => ?_)
    refine lv_aload_n hx hb dX7_remembers_66 rfl (lv_at hl 0 rfl) ?_
    refine lv_dup hx hb dX7_remembers_67 rfl ?_
    refine a_geti (σ := aG r63) (o := 109) (T := TX7) (N := 20) C wU_X7 hw rfl (by decide) rfl 12 (by decide) rfl wF_X7_204 dX7_remembers_68 ?_
    refine lv_iconst (v := (1 : Int32)) hx hb dX7_remembers_71 (by decide) ?_
    refine lv_iadd hx hb dX7_remembers_72 ?_
    refine a_puti (ty := .int) (σ := aG r63) (o := 109) (T := TX7) (N := 20) (ty0 := tyX7) C wU_X7 tyX7_ok nmX7 hw rfl (by decide) rfl 12 (by decide) rfl wF_X7_204 rfl (by decide +kernel) rfl rfl dX7_remembers_73 (fun H locs hw => ?_)
    have hw : aW D dA ad adV (aG (pI r63 109 12 ((gI r63 109 12) + (1 : Int32)))) A s H locs := hw
    cases h_e hM
    exact a_vret C hw dX7_remembers_76
  · replace hM := h_t hc hM
    refine lv_iconst (v := (1 : Int32)) hx hb dX7_remembers_9 (by decide) ?_
    refine lv_istore_n (lv' := [(1, .int (1 : Int32)), (0, .ref (ad 109))]) hx hb dX7_remembers_10 rfl hl (by decide) rfl (fun ls hl => ?_)
    exact tl_X7_remembers_11 l C aF ((1 : Int32)) hM hw (lv_sub hl [1, 0] rfl)
def rm_X7_undo : Room := { frames := 1, cells := 0, slots := 0, locals := 22 }
theorem k_X7_undo : aCal RX7 yX7_undo cX7_undo 1 (some .int) 0 := ⟨wI_yX7_undo, wE_yX7_undo, wZ_X7, wC_yX7_undo, by decide +kernel⟩
set_option maxHeartbeats 4000000 in
set_option maxRecDepth 100000 in
theorem c_X7_undo (l : Launch) {ι : iS} {res : Int32 × iS} (hM : m_X7_undo ι = some res) : aM l yX7_undo cX7_undo 1 (some .int) rm_X7_undo (fun ad => [.ref (ad 109)]) (aG ι) (some (.int res.1)) (aG res.2) := by
  refine aM.of (by decide) (fun _ => Nat.le_of_ble_eq_true rfl) ?_
  intro p e s m args below meth c D dA ad adV A ls C hw hl
  have C : aX p m c cX7_undo 1 s args aTs RX7 meth (some .int) := C
  have hx := C.1.1
  have hb := C.1.2.1
  have hml := C.1.2.2.1
  have hown := C.1.2.2.2.1
  have hts := C.1.2.2.2.2
  have hl : lv_has ls 1 [(0, .ref (ad 109))] := hl
  unfold m_X7_undo at hM
  refine lv_aload_n hx hb dX7_undo_0 rfl (lv_at hl 0 rfl) ?_
  refine lv_iconst (v := (0 : Int32)) hx hb dX7_undo_1 (by decide) ?_
  refine a_puti (ty := .int) (σ := aG ι) (o := 109) (T := TX7) (N := 20) (ty0 := tyX7) C wU_X7 tyX7_ok nmX7 hw rfl (by decide) rfl 0 (by decide) rfl wF_X7_42 rfl (by decide +kernel) rfl rfl dX7_undo_2 (fun H locs hw => ?_)
  have hw : aW D dA ad adV (aG (pI ι 109 0 (0 : Int32))) A s H locs := hw
  refine lv_aload_n hx hb dX7_undo_5 rfl (lv_at hl 0 rfl) ?_
  refine a_geti (σ := aG (pI ι 109 0 (0 : Int32))) (o := 109) (T := TX7) (N := 20) C wU_X7 hw rfl (by decide) rfl 12 (by decide) rfl wF_X7_204 dX7_undo_6 ?_
  refine lv_if_ne (tgt := 14) hx hb dX7_undo_9 (by decide) (fun hc => ?_) (fun hc => ?_)
  · replace hM := h_f hc hM
    refine lv_aload_n hx hb dX7_undo_14 rfl (lv_at hl 0 rfl) ?_
    refine lv_dup hx hb dX7_undo_15 rfl ?_
    refine a_geti (σ := aG (pI ι 109 0 (0 : Int32))) (o := 109) (T := TX7) (N := 20) C wU_X7 hw rfl (by decide) rfl 12 (by decide) rfl wF_X7_204 dX7_undo_16 ?_
    refine lv_iconst (v := (1 : Int32)) hx hb dX7_undo_19 (by decide) ?_
    refine lv_isub hx hb dX7_undo_20 ?_
    refine a_puti (ty := .int) (σ := aG (pI ι 109 0 (0 : Int32))) (o := 109) (T := TX7) (N := 20) (ty0 := tyX7) C wU_X7 tyX7_ok nmX7 hw rfl (by decide) rfl 12 (by decide) rfl wF_X7_204 rfl (by decide +kernel) rfl rfl dX7_undo_21 (fun H locs hw => ?_)
    have hw : aW D dA ad adV (aG (pI (pI ι 109 0 (0 : Int32)) 109 12 ((gI (pI ι 109 0 (0 : Int32)) 109 12) - (1 : Int32)))) A s H locs := hw
    refine lv_aload_n hx hb dX7_undo_24 rfl (lv_at hl 0 rfl) ?_
    refine a_getp (q := 114) (σ := aG (pI (pI ι 109 0 (0 : Int32)) 109 12 ((gI (pI ι 109 0 (0 : Int32)) 109 12) - (1 : Int32)))) (o := 109) (T := TX7) (N := 20) C wU_X7 hw rfl (by decide) rfl 11 (by decide) rfl wF_X7_28 (aG_P rfl rfl) dX7_undo_25 ?_
    refine lv_aload_n hx hb dX7_undo_28 rfl (lv_at hl 0 rfl) ?_
    refine a_geti (σ := aG (pI (pI ι 109 0 (0 : Int32)) 109 12 ((gI (pI ι 109 0 (0 : Int32)) 109 12) - (1 : Int32)))) (o := 109) (T := TX7) (N := 20) C wU_X7 hw rfl (by decide) rfl 12 (by decide) rfl wF_X7_204 dX7_undo_29 ?_
    obtain ⟨hi, hM⟩ := h_i hM
    obtain ⟨hr32a, hr32b⟩ := a114 hi
    refine a_rald (σ := aG (pI (pI ι 109 0 (0 : Int32)) 109 12 ((gI (pI ι 109 0 (0 : Int32)) 109 12) - (1 : Int32)))) (o := 114) (q := (115 + (gI (pI (pI ι 109 0 (0 : Int32)) 109 12 ((gI (pI ι 109 0 (0 : Int32)) 109 12) - (1 : Int32))) 109 12).toNatClampNeg)) C hw rfl hi rfl (aG_P hr32a.1 hr32a.2) dX7_undo_32 ?_
    refine lv_aload_n hx hb dX7_undo_33 rfl (lv_at hl 0 rfl) ?_
    refine a_getp (q := 112) (σ := aG (pI (pI ι 109 0 (0 : Int32)) 109 12 ((gI (pI ι 109 0 (0 : Int32)) 109 12) - (1 : Int32)))) (o := 109) (T := TX7) (N := 20) C wU_X7 hw rfl (by decide) rfl 9 (by decide) rfl wF_X7_20 (aG_P rfl rfl) dX7_undo_34 ?_
    obtain ⟨r37, hr37, hM⟩ := h_b hM
    refine a_callS  (σ' := aG r37) (v := none) (as := fun ad => [.ref (ad (115 + (gI (pI (pI ι 109 0 (0 : Int32)) 109 12 ((gI (pI ι 109 0 (0 : Int32)) 109 12) - (1 : Int32))) 109 12).toNatClampNeg)), .ref (ad 112)]) (rest := []) C hw (c_X7_copies l (hr32b) (rfl) hr37) k_X7_copies wM_X7_176 ⟨⟨rfl, rfl⟩, ⟨Nat.le_of_ble_eq_true rfl, Nat.le_of_ble_eq_true rfl⟩⟩ rfl hl rfl (Nat.le_of_ble_eq_true rfl) dX7_undo_37 ⟨Nat.zero_le _, Nat.zero_le _⟩ (fun H locs hw => ?_)
    refine lv_aload_n hx hb dX7_undo_40 rfl (lv_at hl 0 rfl) ?_
    refine a_geti (σ := aG r37) (o := 109) (T := TX7) (N := 20) C wU_X7 hw rfl (by decide) rfl 12 (by decide) rfl wF_X7_204 dX7_undo_41 ?_
    cases h_e hM
    exact a_iret C hw dX7_undo_44
  · replace hM := h_t hc hM
    refine lv_iconst (v := (-1 : Int32)) hx hb dX7_undo_12 (by decide) ?_
    cases h_e hM
    exact a_iret C hw dX7_undo_13
def rm_X7_isPerson : Room := { frames := 1, cells := 0, slots := 0, locals := 22 }
theorem k_X7_isPerson : aCal RX7 yX7_isPerson cX7_isPerson 2 (some .boolean) 1 := ⟨wI_yX7_isPerson, wE_yX7_isPerson, wZ_X7, wC_yX7_isPerson, by decide +kernel⟩
set_option maxHeartbeats 4000000 in
set_option maxRecDepth 100000 in
theorem c_X7_isPerson (l : Launch) {x1 : Int32} {ι : iS} {res : Int32 × iS} (hM : m_X7_isPerson x1 ι = some res) : aM l yX7_isPerson cX7_isPerson 2 (some .boolean) rm_X7_isPerson (fun ad => [.ref (ad 109), .int x1]) (aG ι) (some (.int res.1)) (aG res.2) := by
  refine aM.of (by decide) (fun _ => Nat.le_of_ble_eq_true rfl) ?_
  intro p e s m args below meth c D dA ad adV A ls C hw hl
  have C : aX p m c cX7_isPerson 2 s args aTs RX7 meth (some .boolean) := C
  have hx := C.1.1
  have hb := C.1.2.1
  have hml := C.1.2.2.1
  have hown := C.1.2.2.2.1
  have hts := C.1.2.2.2.2
  have hl : lv_has ls 2 [(0, .ref (ad 109)), (1, .int x1)] := hl
  unfold m_X7_isPerson at hM
  refine lv_iload_n hx hb dX7_isPerson_0 rfl (lv_at hl 1 rfl) ?_
  refine lv_iconst (v := (0 : Int32)) hx hb dX7_isPerson_1 (by decide) ?_
  refine lv_aload_n hx hb dX7_isPerson_2 rfl (lv_at hl 0 rfl) ?_
  refine a_getp (q := 112) (σ := aG ι) (o := 109) (T := TX7) (N := 20) C wU_X7 hw rfl (by decide) rfl 9 (by decide) rfl wF_X7_20 (aG_P rfl rfl) dX7_isPerson_3 ?_
  refine lv_iconst (v := (1 : Int32)) hx hb dX7_isPerson_6 (by decide) ?_
  refine a_iald (σ := aG ι) (o := 112) C hw rfl (aIn_v (by decide)) (show (1 : Int32).toNatClampNeg = 1 by decide) dX7_isPerson_7 ?_
  obtain ⟨r8, hr8, hM⟩ := h_b hM
  refine a_callS  (σ' := aG r8.2) (v := (some (.int r8.1))) (as := fun ad => [.int x1, .int (0 : Int32), .int (gI ι 112 1)]) (rest := []) C hw (c_X7_in l hr8) k_X7_in wM_X7_81 ⟨⟨rfl, rfl⟩, ⟨Nat.le_of_ble_eq_true rfl, Nat.le_of_ble_eq_true rfl⟩⟩ rfl hl rfl (Nat.le_of_ble_eq_true rfl) dX7_isPerson_8 ⟨Nat.zero_le _, Nat.zero_le _⟩ (fun H locs hw => ?_)
  obtain ⟨hz, hM⟩ := h_g hM
  cases h_e hM
  exact a_zret C (zn hz) hw dX7_isPerson_11
def rm_X7_isTrait : Room := { frames := 1, cells := 0, slots := 0, locals := 22 }
theorem k_X7_isTrait : aCal RX7 yX7_isTrait cX7_isTrait 2 (some .boolean) 1 := ⟨wI_yX7_isTrait, wE_yX7_isTrait, wZ_X7, wC_yX7_isTrait, by decide +kernel⟩
set_option maxHeartbeats 4000000 in
set_option maxRecDepth 100000 in
theorem c_X7_isTrait (l : Launch) {x1 : Int32} {ι : iS} {res : Int32 × iS} (hM : m_X7_isTrait x1 ι = some res) : aM l yX7_isTrait cX7_isTrait 2 (some .boolean) rm_X7_isTrait (fun ad => [.ref (ad 109), .int x1]) (aG ι) (some (.int res.1)) (aG res.2) := by
  refine aM.of (by decide) (fun _ => Nat.le_of_ble_eq_true rfl) ?_
  intro p e s m args below meth c D dA ad adV A ls C hw hl
  have C : aX p m c cX7_isTrait 2 s args aTs RX7 meth (some .boolean) := C
  have hx := C.1.1
  have hb := C.1.2.1
  have hml := C.1.2.2.1
  have hown := C.1.2.2.2.1
  have hts := C.1.2.2.2.2
  have hl : lv_has ls 2 [(0, .ref (ad 109)), (1, .int x1)] := hl
  unfold m_X7_isTrait at hM
  refine lv_iload_n hx hb dX7_isTrait_0 rfl (lv_at hl 1 rfl) ?_
  refine lv_iconst (v := (0 : Int32)) hx hb dX7_isTrait_1 (by decide) ?_
  refine lv_aload_n hx hb dX7_isTrait_2 rfl (lv_at hl 0 rfl) ?_
  refine a_getp (q := 112) (σ := aG ι) (o := 109) (T := TX7) (N := 20) C wU_X7 hw rfl (by decide) rfl 9 (by decide) rfl wF_X7_20 (aG_P rfl rfl) dX7_isTrait_3 ?_
  refine lv_iconst (v := (0 : Int32)) hx hb dX7_isTrait_6 (by decide) ?_
  refine a_iald (σ := aG ι) (o := 112) C hw rfl (aIn_v (by decide)) (show (0 : Int32).toNatClampNeg = 0 by decide) dX7_isTrait_7 ?_
  refine lv_iconst (v := (1 : Int32)) hx hb dX7_isTrait_8 (by decide) ?_
  refine lv_isub hx hb dX7_isTrait_9 ?_
  obtain ⟨r10, hr10, hM⟩ := h_b hM
  refine a_callS  (σ' := aG r10.2) (v := (some (.int r10.1))) (as := fun ad => [.int x1, .int (0 : Int32), .int ((gI ι 112 0) - (1 : Int32))]) (rest := []) C hw (c_X7_in l hr10) k_X7_in wM_X7_81 ⟨⟨rfl, rfl⟩, ⟨Nat.le_of_ble_eq_true rfl, Nat.le_of_ble_eq_true rfl⟩⟩ rfl hl rfl (Nat.le_of_ble_eq_true rfl) dX7_isTrait_10 ⟨Nat.zero_le _, Nat.zero_le _⟩ (fun H locs hw => ?_)
  obtain ⟨hz, hM⟩ := h_g hM
  cases h_e hM
  exact a_zret C (zn hz) hw dX7_isTrait_13
def rm_X7_placeOf : Room := { frames := 0, cells := 0, slots := 0, locals := 0 }
set_option maxHeartbeats 4000000 in
set_option maxRecDepth 100000 in
theorem tl_X7_placeOf_2 (l : Launch) {p : Program} {e : Env} {s : State} {m : MethodId} {args : Array Value} {below : List Frame} {meth : Method} {c : Code} {D : va_G} {dA : Nat → ClassId} {ad adV : Nat → Nat} {A : Nat → Prop} (C : aX p m c cX7_placeOf 3 s args aTs RX7 meth (some .int)) {res : Int32 × iS} : ∀ (n : Nat) (y1 : Int32) (y2 : Int32) {ι : iS}, l_X7_placeOf_2 n y1 y2 ι = some res → ∀ {H : Heap} {locs : List Loc} {ls : Array Slot}, aW D dA ad adV (aG ι) A s H locs → lv_has ls 3 [(0, .ref (ad 109)), (1, .int y1), (2, .int y2)] → W p l e rm_X7_placeOf s m args below meth c H locs 0 0 (MQ below (aQ D dA ad (aG res.2) A (some (.int res.1))) args s 0 0 A) (F0 m 2 ls []) := by
  have hx := C.1.1
  have hb := C.1.2.1
  have hml := C.1.2.2.1
  have hown := C.1.2.2.2.1
  have hts := C.1.2.2.2.2
  intro n
  induction n with
  | zero => intro y1 y2 ι hM; simp [l_X7_placeOf_2] at hM
  | succ n ih =>
    intro y1 y2 ι hM H locs ls hw hl
    rw [l_X7_placeOf_2] at hM
    refine lv_iload_n hx hb dX7_placeOf_2 rfl (lv_at hl 2 rfl) ?_
    refine lv_aload_n hx hb dX7_placeOf_3 rfl (lv_at hl 0 rfl) ?_
    refine a_getp (q := 112) (σ := aG ι) (o := 109) (T := TX7) (N := 20) C wU_X7 hw rfl (by decide) rfl 9 (by decide) rfl wF_X7_20 (aG_P rfl rfl) dX7_placeOf_4 ?_
    refine lv_iconst (v := (3 : Int32)) hx hb dX7_placeOf_7 (by decide) ?_
    refine a_iald (σ := aG ι) (o := 112) C hw rfl (aIn_v (by decide)) (show (3 : Int32).toNatClampNeg = 3 by decide) dX7_placeOf_8 ?_
    refine lv_icmp_ge (tgt := 33) hx hb dX7_placeOf_9 (by decide) (fun hc => ?_) (fun hc => ?_)
    · replace hM := h_t hc hM
      refine lv_iconst (v := (-1 : Int32)) hx hb dX7_placeOf_33 (by decide) ?_
      cases h_e hM
      exact a_iret C hw dX7_placeOf_34
    · replace hM := h_f hc hM
      refine lv_aload_n hx hb dX7_placeOf_12 rfl (lv_at hl 0 rfl) ?_
      refine a_getp (q := 112) (σ := aG ι) (o := 109) (T := TX7) (N := 20) C wU_X7 hw rfl (by decide) rfl 9 (by decide) rfl wF_X7_20 (aG_P rfl rfl) dX7_placeOf_13 ?_
      refine lv_bipush (v := (99 : Int32)) hx hb dX7_placeOf_16 (by decide) ?_
      refine lv_iload_n hx hb dX7_placeOf_18 rfl (lv_at hl 2 rfl) ?_
      refine lv_iadd hx hb dX7_placeOf_19 ?_
      obtain ⟨hi, hM⟩ := h_i hM
      refine a_iald (σ := aG ι) (o := 112) C hw rfl hi rfl dX7_placeOf_20 ?_
      refine lv_iload_n hx hb dX7_placeOf_21 rfl (lv_at hl 1 rfl) ?_
      refine lv_icmp_ne (tgt := 27) hx hb dX7_placeOf_22 (by decide) (fun hc => ?_) (fun hc => ?_)
      · replace hM := h_f hc hM
        refine lv_iinc (v := (y2 + 1)) (lv' := [(2, .int (y2 + 1)), (0, .ref (ad 109)), (1, .int y1)]) hx hb dX7_placeOf_27 hl (k := 2) rfl rfl (by decide) rfl (fun ls hl => ?_)
        refine lv_goto (tgt := 2) hx hb dX7_placeOf_30 (by decide) ?_
        exact ih (y1) ((y2 + 1)) hM hw (lv_sub hl [1, 2, 0] rfl)
      · replace hM := h_t hc hM
        refine lv_iload_n hx hb dX7_placeOf_25 rfl (lv_at hl 2 rfl) ?_
        cases h_e hM
        exact a_iret C hw dX7_placeOf_26
theorem k_X7_placeOf : aCal RX7 yX7_placeOf cX7_placeOf 3 (some .int) 1 := ⟨wI_yX7_placeOf, wE_yX7_placeOf, wZ_X7, wC_yX7_placeOf, by decide +kernel⟩
set_option maxHeartbeats 4000000 in
set_option maxRecDepth 100000 in
theorem c_X7_placeOf (l : Launch) {x1 : Int32} {ι : iS} {res : Int32 × iS} (hM : m_X7_placeOf x1 ι = some res) : aM l yX7_placeOf cX7_placeOf 3 (some .int) rm_X7_placeOf (fun ad => [.ref (ad 109), .int x1]) (aG ι) (some (.int res.1)) (aG res.2) := by
  refine aM.of (by decide) (fun _ => Nat.le_of_ble_eq_true rfl) ?_
  intro p e s m args below meth c D dA ad adV A ls C hw hl
  have C : aX p m c cX7_placeOf 3 s args aTs RX7 meth (some .int) := C
  have hx := C.1.1
  have hb := C.1.2.1
  have hml := C.1.2.2.1
  have hown := C.1.2.2.2.1
  have hts := C.1.2.2.2.2
  have hl : lv_has ls 3 [(0, .ref (ad 109)), (1, .int x1)] := hl
  unfold m_X7_placeOf at hM
  refine lv_iconst (v := (0 : Int32)) hx hb dX7_placeOf_0 (by decide) ?_
  refine lv_istore_n (lv' := [(2, .int (0 : Int32)), (0, .ref (ad 109)), (1, .int x1)]) hx hb dX7_placeOf_1 rfl hl (by decide) rfl (fun ls hl => ?_)
  exact tl_X7_placeOf_2 l C aF (x1) ((0 : Int32)) hM hw (lv_sub hl [1, 2, 0] rfl)
