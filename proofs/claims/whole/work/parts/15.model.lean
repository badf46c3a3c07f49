def l_X7_feels_2 : Nat → Int32 → Int32 → Int32 → iS → Option (iS)
  | 0, _, _, _, _ => none
  | n + 1, y1, y2, y3, ι => if (gI ι 112 3) ≤ y3 then some ι else if aIn ((99 : Int32) + y3) 883 = true then Option.bind (m_X7_matchOf (gI ι 112 ((99 : Int32) + y3).toNatClampNeg) y1 ι) fun r28 => if aIn ((99 : Int32) + y3) 883 = true then if (gI r28.2 112 ((99 : Int32) + y3).toNatClampNeg) = 0 then if y2 = 0 then if aIn y3 8 = true then l_X7_feels_2 n y1 y2 (y3 + 1) (pI r28.2 124 y3.toNatClampNeg (r28.1 + (gI r28.2 112 6))) else none else if aIn y3 8 = true then l_X7_feels_2 n y1 y2 (y3 + 1) (pI r28.2 124 y3.toNatClampNeg (r28.1 + (0 : Int32))) else none else if aIn y3 8 = true then l_X7_feels_2 n y1 y2 (y3 + 1) (pI r28.2 124 y3.toNatClampNeg (r28.1 + (0 : Int32))) else none else none else none
def m_X7_feels (x1 : Int32) (x2 : Int32) (ι : iS) : Option (iS) := l_X7_feels_2 aF x1 x2 (0 : Int32) ι
def m_X7_each (ι : iS) : Option (Int32 × iS) := some ((((2 : Int32) * (gI ι 112 4)) + (1 : Int32)), ι)
def m_X7_below (x1 : Int32) (x2 : Int32) (ι : iS) : Option (Int32 × iS) := Option.bind (m_X7_each ι) fun r1 => if aIn x1 8 = true then Option.bind (m_X7_more (0 : Int32) (x2 - ((gI r1.2 124 x1.toNatClampNeg) - (gI r1.2 112 4))) r1.2) fun r20 => Option.bind (m_X7_less r1.1 r20.1 r20.2) fun r23 => some (r23.1, r23.2) else none
def l_X7_allWays_4 : Nat → Int64 → Int32 → iS → Option (Int64 × iS)
  | 0, _, _, _ => none
  | n + 1, y1, y3, ι => if (gI ι 112 3) ≤ y3 then some (y1, ι) else Option.bind (m_X7_each ι) fun r16 => l_X7_allWays_4 n (y1 * (r16.1).toInt64) (y3 + 1) r16.2
def m_X7_allWays (ι : iS) : Option (Int64 × iS) := l_X7_allWays_4 aF (1 : Int64) (0 : Int32) ι
def l_X7_oneByOne_16 : Nat → Int32 → Int32 → Int64 → Int32 → iS → Option (Int64 × iS)
  | 0, _, _, _, _, _ => none
  | n + 1, y1, y2, y3, y5, ι => if (gI ι 112 3) ≤ y5 then some (y3, ι) else if y1 ≤ y5 then if y5 ≤ y1 then l_X7_oneByOne_16 n y1 y2 (y3 * (1 : Int64)) (y5 + 1) ι else Option.bind (m_X7_each ι) fun r52 => l_X7_oneByOne_16 n y1 y2 (y3 * (r52.1).toInt64) (y5 + 1) r52.2 else Option.bind (m_X7_below y5 y2 ι) fun r38 => l_X7_oneByOne_16 n y1 y2 (y3 * (r38.1).toInt64) (y5 + 1) r38.2
def m_X7_oneByOne (x1 : Int32) (x2 : Int32) (ι : iS) : Option (Int64 × iS) := Option.bind (m_X7_each ι) fun r1 => Option.bind (m_X7_below x1 x2 r1.2) fun r7 => l_X7_oneByOne_16 aF x1 x2 ((r1.1 - r7.1)).toInt64 (0 : Int32) r7.2
def l_X7_atOnce_45 : Nat → Int32 → Int32 → Int64 → Int32 → Int64 → Int32 → iS → (Int32 → Int32 → Int64 → Int32 → Int64 → Int32 → iS → Option (Int64 × iS)) → Option (Int64 × iS)
  | 0, _, _, _, _, _, _, _, _ => none
  | n + 1, y1, y2, y3, y5, y6, y8, ι, k => if (gI ι 112 3) ≤ y8 then k y1 y2 y3 y5 y6 y8 ι else if y1 ≤ y8 then if y8 ≤ y1 then l_X7_atOnce_45 n y1 y2 y3 y5 (y6 * (1 : Int64)) (y8 + 1) ι k else Option.bind (m_X7_below y8 (y5 + (1 : Int32)) ι) fun r89 => l_X7_atOnce_45 n y1 y2 y3 y5 (y6 * (r89.1).toInt64) (y8 + 1) r89.2 k else Option.bind (m_X7_below y8 y5 ι) fun r69 => l_X7_atOnce_45 n y1 y2 y3 y5 (y6 * (r69.1).toInt64) (y8 + 1) r69.2 k
def l_X7_atOnce_21 : Nat → Int32 → Int32 → Int64 → Int32 → iS → Option (Int64 × iS)
  | 0, _, _, _, _, _ => none
  | n + 1, y1, y2, y3, y5, ι => if aIn y1 8 = true then if ((gI ι 124 y1.toNatClampNeg) + (gI ι 112 4)) < y5 then some (y3, ι) else l_X7_atOnce_45 aF y1 y2 y3 y5 (1 : Int64) (0 : Int32) ι (fun z45_1 z45_2 z45_3 z45_5 z45_6 z45_8 ι45 => l_X7_atOnce_21 n z45_1 z45_2 (z45_3 + z45_6) (z45_5 + 1) ι45) else none
def m_X7_atOnce (x1 : Int32) (x2 : Int32) (ι : iS) : Option (Int64 × iS) := if aIn x1 8 = true then Option.bind (m_X7_more x2 ((gI ι 124 x1.toNatClampNeg) - (gI ι 112 4)) ι) fun r16 => l_X7_atOnce_21 aF x1 x2 (0 : Int64) r16.1 r16.2 else none
def m_X7_picked (x1 : Int32) (x2 : Int32) (x3 : Int32) (ι : iS) : Option (Int64 × iS) := if x1 = 0 then Option.bind (m_X7_oneByOne x2 x3 ι) fun r7 => some (r7.1, r7.2) else Option.bind (m_X7_atOnce x2 x3 ι) fun r16 => some (r16.1, r16.2)
def l_X7_terms_29 : Nat → Int64 → Int64 → Int32 → Int64 → Int64 → iS → Option (Int64 × iS)
  | 0, _, _, _, _, _, _ => none
  | n + 1, y0, y2, y4, y5, y7, ι => if (lg_cmp y7 (0 : Int64)) = 0 then if y4 = 0 then if ¬ y5 = 0 then some ((y0 / y5), ι) else none else if ¬ y5 = 0 then some ((y2 / y5), ι) else none else if ¬ y7 = 0 then l_X7_terms_29 n y0 y2 y4 y7 (y5 - y5 / y7 * y7) ι else none
def m_X7_terms (x1 : Int64) (x2 : Int64) (x3 : Int32) (ι : iS) : Option (Int64 × iS) := if (lg_cmp x2 (0 : Int64)) = 0 then if x3 = 0 then some ((0 : Int64), ι) else some ((1 : Int64), ι) else if (lg_cmp x1 (0 : Int64)) = 0 then if x3 = 0 then some ((0 : Int64), ι) else some ((1 : Int64), ι) else l_X7_terms_29 aF x1 x2 x3 x1 x2 ι
def m_X7_isHalf (x1 : Int32) (ι : iS) : Option (Int32 × iS) := if x1 = 0 then some ((1 : Int32), ι) else if x1 = (1 : Int32) then some ((1 : Int32), ι) else some ((0 : Int32), ι)
def l_X7_chance_76 : Nat → Int32 → Int32 → Int32 → Int32 → Int32 → Int64 → Int32 → iS → Option (Int64 × iS)
  | 0, _, _, _, _, _, _, _, _ => none
  | n + 1, y1, y2, y3, y4, y5, y6, y8, ι => if (gI ι 112 3) ≤ y8 then if y2 = (-1 : Int32) then Option.bind (m_X7_allWays ι) fun r136 => Option.bind (m_X7_allWays r136.2) fun r148 => Option.bind (m_X7_terms (r136.1 - y6) r148.1 y5 r148.2) fun r153 => some (r153.1, r153.2) else Option.bind (m_X7_allWays ι) fun r148 => Option.bind (m_X7_terms y6 r148.1 y5 r148.2) fun r153 => some (r153.1, r153.2) else if y2 = (-1 : Int32) then Option.bind (m_X7_picked y1 y8 (gI ι 112 5) ι) fun r118 => l_X7_chance_76 n y1 y2 y3 y4 y5 (y6 + r118.1) (y8 + 1) r118.2 else if aIn ((99 : Int32) + y8) 883 = true then if (gI ι 112 ((99 : Int32) + y8).toNatClampNeg) = y2 then Option.bind (m_X7_picked y1 y8 (gI ι 112 5) ι) fun r118 => l_X7_chance_76 n y1 y2 y3 y4 y5 (y6 + r118.1) (y8 + 1) r118.2 else l_X7_chance_76 n y1 y2 y3 y4 y5 y6 (y8 + 1) ι else none
def m_X7_chance (x1 : Int32) (x2 : Int32) (x3 : Int32) (x4 : Int32) (x5 : Int32) (ι : iS) : Option (Int64 × iS) := if x2 = (-1 : Int32) then Option.bind (m_X7_bad (0 : Int32) (1 : Int32) (0 : Int32) (pI ι 109 0 (0 : Int32))) fun r26 => if r26.1 = 0 then Option.bind (m_X7_isHalf x1 r26.2) fun r34 => if r34.1 = 0 then Option.bind (m_X7_bad (1 : Int32) (2 : Int32) (1 : Int32) r34.2) fun r55 => if r55.1 = 0 then Option.bind (m_X7_feels x3 x4 r55.2) fun r67 => l_X7_chance_76 aF x1 x2 x3 x4 x5 (0 : Int64) (0 : Int32) r67 else some ((0 : Int64), r55.2) else Option.bind (m_X7_isHalf x5 r34.2) fun r42 => if r42.1 = 0 then Option.bind (m_X7_bad (1 : Int32) (2 : Int32) (1 : Int32) r42.2) fun r55 => if r55.1 = 0 then Option.bind (m_X7_feels x3 x4 r55.2) fun r67 => l_X7_chance_76 aF x1 x2 x3 x4 x5 (0 : Int64) (0 : Int32) r67 else some ((0 : Int64), r55.2) else Option.bind (m_X7_bad (0 : Int32) (2 : Int32) (1 : Int32) r42.2) fun r55 => if r55.1 = 0 then Option.bind (m_X7_feels x3 x4 r55.2) fun r67 => l_X7_chance_76 aF x1 x2 x3 x4 x5 (0 : Int64) (0 : Int32) r67 else some ((0 : Int64), r55.2) else some ((0 : Int64), r26.2) else Option.bind (m_X7_isPerson x2 (pI ι 109 0 (0 : Int32))) fun r13 => if r13.1 = 0 then Option.bind (m_X7_bad (1 : Int32) (1 : Int32) (0 : Int32) r13.2) fun r26 => if r26.1 = 0 then Option.bind (m_X7_isHalf x1 r26.2) fun r34 => if r34.1 = 0 then Option.bind (m_X7_bad (1 : Int32) (2 : Int32) (1 : Int32) r34.2) fun r55 => if r55.1 = 0 then Option.bind (m_X7_feels x3 x4 r55.2) fun r67 => l_X7_chance_76 aF x1 x2 x3 x4 x5 (0 : Int64) (0 : Int32) r67 else some ((0 : Int64), r55.2) else Option.bind (m_X7_isHalf x5 r34.2) fun r42 => if r42.1 = 0 then Option.bind (m_X7_bad (1 : Int32) (2 : Int32) (1 : Int32) r42.2) fun r55 => if r55.1 = 0 then Option.bind (m_X7_feels x3 x4 r55.2) fun r67 => l_X7_chance_76 aF x1 x2 x3 x4 x5 (0 : Int64) (0 : Int32) r67 else some ((0 : Int64), r55.2) else Option.bind (m_X7_bad (0 : Int32) (2 : Int32) (1 : Int32) r42.2) fun r55 => if r55.1 = 0 then Option.bind (m_X7_feels x3 x4 r55.2) fun r67 => l_X7_chance_76 aF x1 x2 x3 x4 x5 (0 : Int64) (0 : Int32) r67 else some ((0 : Int64), r55.2) else some ((0 : Int64), r26.2) else Option.bind (m_X7_bad (0 : Int32) (1 : Int32) (0 : Int32) r13.2) fun r26 => if r26.1 = 0 then Option.bind (m_X7_isHalf x1 r26.2) fun r34 => if r34.1 = 0 then Option.bind (m_X7_bad (1 : Int32) (2 : Int32) (1 : Int32) r34.2) fun r55 => if r55.1 = 0 then Option.bind (m_X7_feels x3 x4 r55.2) fun r67 => l_X7_chance_76 aF x1 x2 x3 x4 x5 (0 : Int64) (0 : Int32) r67 else some ((0 : Int64), r55.2) else Option.bind (m_X7_isHalf x5 r34.2) fun r42 => if r42.1 = 0 then Option.bind (m_X7_bad (1 : Int32) (2 : Int32) (1 : Int32) r42.2) fun r55 => if r55.1 = 0 then Option.bind (m_X7_feels x3 x4 r55.2) fun r67 => l_X7_chance_76 aF x1 x2 x3 x4 x5 (0 : Int64) (0 : Int32) r67 else some ((0 : Int64), r55.2) else Option.bind (m_X7_bad (0 : Int32) (2 : Int32) (1 : Int32) r42.2) fun r55 => if r55.1 = 0 then Option.bind (m_X7_feels x3 x4 r55.2) fun r67 => l_X7_chance_76 aF x1 x2 x3 x4 x5 (0 : Int64) (0 : Int32) r67 else some ((0 : Int64), r55.2) else some ((0 : Int64), r26.2)
def m_X7_adds (x1 : Int32) (ι : iS) : Option (iS) := some (pJ (pJ ι 109 18 ((gJ ι 109 18) + (x1).toInt64)) 109 19 ((gJ (pJ ι 109 18 ((gJ ι 109 18) + (x1).toInt64)) 109 19) + ((x1).toInt64 * (x1).toInt64)))
def m_X7_clears (ι : iS) : Option (iS) := some (pJ (pJ ι 109 18 (0 : Int64)) 109 19 (0 : Int64))
def l_X7_size_36 : Nat → Int32 → Int32 → iS → Option (Int64 × iS)
  | 0, _, _, _ => none
  | n + 1, y1, y2, ι => if (gI ι 112 3) ≤ y2 then Option.bind (m_X7_terms ((gJ ι 109 18) * (gJ ι 109 18)) (gJ ι 109 19) (y1 - y1 / (2 : Int32) * (2 : Int32)) ι) fun r111 => some (r111.1, r111.2) else if (2 : Int32) ≤ y1 then if aIn ((99 : Int32) + y2) 883 = true then if aIn ((107 : Int32) + (gI ι 112 ((99 : Int32) + y2).toNatClampNeg)) 883 = true then Option.bind (m_X7_adds (gI ι 112 ((107 : Int32) + (gI ι 112 ((99 : Int32) + y2).toNatClampNeg)).toNatClampNeg) ι) fun r86 => l_X7_size_36 n y1 (y2 + 1) r86 else none else none else if aIn ((99 : Int32) + y2) 883 = true then Option.bind (m_X7_matchOf (gI ι 112 ((99 : Int32) + y2).toNatClampNeg) (0 : Int32) ι) fun r63 => Option.bind (m_X7_adds r63.1 r63.2) fun r86 => l_X7_size_36 n y1 (y2 + 1) r86 else none
def m_X7_size (x1 : Int32) (ι : iS) : Option (Int64 × iS) := Option.bind (m_X7_in x1 (0 : Int32) (3 : Int32) (pI ι 109 0 (0 : Int32))) fun r9 => if r9.1 = 0 then Option.bind (m_X7_bad (1 : Int32) (1 : Int32) (1 : Int32) r9.2) fun r22 => if r22.1 = 0 then Option.bind (m_X7_clears r22.2) fun r31 => l_X7_size_36 aF x1 (0 : Int32) r31 else some ((0 : Int64), r22.2) else Option.bind (m_X7_bad (0 : Int32) (1 : Int32) (1 : Int32) r9.2) fun r22 => if r22.1 = 0 then Option.bind (m_X7_clears r22.2) fun r31 => l_X7_size_36 aF x1 (0 : Int32) r31 else some ((0 : Int64), r22.2)
def l_X7_fairest_68 : Nat → Int32 → Int32 → Int32 → Int64 → Int64 → Int32 → Int32 → Int32 → iS → (Int32 → Int32 → Int32 → Int64 → Int64 → Int32 → Int32 → Int32 → iS → Option (Int64 × iS)) → Option (Int64 × iS)
  | 0, _, _, _, _, _, _, _, _, _, _ => none
  | n + 1, y1, y2, y3, y4, y6, y8, y9, y10, ι, k => if (16 : Int32) ≤ y10 then k y1 y2 y3 y4 y6 y8 y9 y10 ι else l_X7_fairest_68 n y1 y2 y3 y4 y6 y8 (y9 + ((y8 >>> (y10 &&& 31)) &&& (1 : Int32))) (y10 + 1) ι k
def l_X7_fairest_111 : Nat → Int32 → Int32 → Int32 → Int64 → Int64 → Int32 → Int32 → Int32 → iS → (Int32 → Int32 → Int32 → Int64 → Int64 → Int32 → Int32 → Int32 → iS → Option (Int64 × iS)) → Option (Int64 × iS)
  | 0, _, _, _, _, _, _, _, _, _, _ => none
  | n + 1, y1, y2, y3, y4, y6, y8, y9, y10, ι, k => Option.bind (m_X7_persons ι) fun r114 => if r114.1 ≤ y10 then k y1 y2 y3 y4 y6 y8 y9 y10 r114.2 else if y10 = 0 then Option.bind (m_X7_matchOf y10 (0 : Int32) r114.2) fun r141 => Option.bind (m_X7_adds r141.1 r141.2) fun r144 => l_X7_fairest_111 n y1 y2 y3 y4 y6 y8 y9 (y10 + 1) r144 k else if ((y8 >>> (y10 &&& 31)) &&& (1 : Int32)) = (1 : Int32) then Option.bind (m_X7_matchOf y10 (0 : Int32) r114.2) fun r141 => Option.bind (m_X7_adds r141.1 r141.2) fun r144 => l_X7_fairest_111 n y1 y2 y3 y4 y6 y8 y9 (y10 + 1) r144 k else l_X7_fairest_111 n y1 y2 y3 y4 y6 y8 y9 (y10 + 1) r114.2 k
def l_X7_fairest_51 : Nat → Int32 → Int32 → Int32 → Int64 → Int64 → Int32 → iS → Option (Int64 × iS)
  | 0, _, _, _, _, _, _, _ => none
  | n + 1, y1, y2, y3, y4, y6, y8, ι => Option.bind (m_X7_persons ι) fun r55 => if ((1 : Int32) <<< (r55.1 &&& 31)) ≤ y8 then if y3 = (-1 : Int32) then some ((-1 : Int64), r55.2) else if y2 = 0 then some ((y3).toInt64, r55.2) else Option.bind (m_X7_terms y4 y6 (y2 - (1 : Int32)) r55.2) fun r251 => some (r251.1, r251.2) else l_X7_fairest_68 aF y1 y2 y3 y4 y6 y8 (0 : Int32) (1 : Int32) r55.2 (fun z68_1 z68_2 z68_3 z68_4 z68_6 z68_8 z68_9 z68_10 ι68 => if z68_9 = (z68_1 - (1 : Int32)) then Option.bind (m_X7_clears ι68) fun r105 => l_X7_fairest_111 aF z68_1 z68_2 z68_3 z68_4 z68_6 z68_8 z68_9 (0 : Int32) r105 (fun z111_1 z111_2 z111_3 z111_4 z111_6 z111_8 z111_9 z111_10 ι111 => if (lg_cmp (gJ ι111 109 19) (0 : Int64)) = 0 then if z111_3 = (-1 : Int32) then l_X7_fairest_51 n z111_1 z111_2 z111_8 ((gJ (pJ ι111 109 19 (1 : Int64)) 109 18) * (gJ (pJ ι111 109 19 (1 : Int64)) 109 18)) (gJ (pJ ι111 109 19 (1 : Int64)) 109 19) (z111_8 + 2) (pJ ι111 109 19 (1 : Int64)) else if 0 < (lg_cmp (((gJ (pJ ι111 109 19 (1 : Int64)) 109 18) * (gJ (pJ ι111 109 19 (1 : Int64)) 109 18)) * z111_6) (z111_4 * (gJ (pJ ι111 109 19 (1 : Int64)) 109 19))) then l_X7_fairest_51 n z111_1 z111_2 z111_8 ((gJ (pJ ι111 109 19 (1 : Int64)) 109 18) * (gJ (pJ ι111 109 19 (1 : Int64)) 109 18)) (gJ (pJ ι111 109 19 (1 : Int64)) 109 19) (z111_8 + 2) (pJ ι111 109 19 (1 : Int64)) else l_X7_fairest_51 n z111_1 z111_2 z111_3 z111_4 z111_6 (z111_8 + 2) (pJ ι111 109 19 (1 : Int64)) else if z111_3 = (-1 : Int32) then l_X7_fairest_51 n z111_1 z111_2 z111_8 ((gJ ι111 109 18) * (gJ ι111 109 18)) (gJ ι111 109 19) (z111_8 + 2) ι111 else if 0 < (lg_cmp (((gJ ι111 109 18) * (gJ ι111 109 18)) * z111_6) (z111_4 * (gJ ι111 109 19))) then l_X7_fairest_51 n z111_1 z111_2 z111_8 ((gJ ι111 109 18) * (gJ ι111 109 18)) (gJ ι111 109 19) (z111_8 + 2) ι111 else l_X7_fairest_51 n z111_1 z111_2 z111_3 z111_4 z111_6 (z111_8 + 2) ι111) else l_X7_fairest_51 n z68_1 z68_2 z68_3 z68_4 z68_6 (z68_8 + 2) ι68)
def m_X7_fairest (x1 : Int32) (x2 : Int32) (ι : iS) : Option (Int64 × iS) := Option.bind (m_X7_in x1 (2 : Int32) (8 : Int32) (pI ι 109 0 (0 : Int32))) fun r10 => if r10.1 = 0 then Option.bind (m_X7_bad (1 : Int32) (1 : Int32) (1 : Int32) r10.2) fun r32 => if r32.1 = 0 then l_X7_fairest_51 aF x1 x2 (-1 : Int32) (0 : Int64) (1 : Int64) (0 : Int32) r32.2 else some ((0 : Int64), r32.2) else Option.bind (m_X7_in x2 (0 : Int32) (2 : Int32) r10.2) fun r19 => if r19.1 = 0 then Option.bind (m_X7_bad (1 : Int32) (1 : Int32) (1 : Int32) r19.2) fun r32 => if r32.1 = 0 then l_X7_fairest_51 aF x1 x2 (-1 : Int32) (0 : Int64) (1 : Int64) (0 : Int32) r32.2 else some ((0 : Int64), r32.2) else Option.bind (m_X7_bad (0 : Int32) (1 : Int32) (1 : Int32) r19.2) fun r32 => if r32.1 = 0 then l_X7_fairest_51 aF x1 x2 (-1 : Int32) (0 : Int64) (1 : Int64) (0 : Int32) r32.2 else some ((0 : Int64), r32.2)
def m_X7_isHidden (ι : iS) : Option (Int32 × iS) := Option.bind (m_X7_placeOf (0 : Int32) ι) fun r2 => if r2.1 = (-1 : Int32) then some ((1 : Int32), r2.2) else some ((0 : Int32), r2.2)
def m_X7_suspectBy (x1 : Int32) (x2 : Int32) (x3 : Int32) (x4 : Int32) (ι : iS) : Option (Int64 × iS) := Option.bind (m_X7_feels x2 x3 ι) fun r3 => Option.bind (m_X7_placeOf (0 : Int32) r3) fun r10 => Option.bind (m_X7_picked x1 r10.1 x4 r10.2) fun r15 => some (r15.1, r15.2)
def m_X7_odds (x1 : Int32) (x2 : Int32) (x3 : Int32) (x4 : Int32) (ι : iS) : Option (Int64 × iS) := Option.bind (m_X7_isHalf x1 (pI ι 109 0 (0 : Int32))) fun r7 => if r7.1 = 0 then Option.bind (m_X7_bad (1 : Int32) (1 : Int32) (1 : Int32) r7.2) fun r28 => if r28.1 = 0 then Option.bind (m_X7_isHidden r28.2) fun r36 => Option.bind (m_X7_bad r36.1 (2 : Int32) (2 : Int32) r36.2) fun r41 => if r41.1 = 0 then Option.bind (m_X7_suspectBy x1 (1 : Int32) x2 (gI r41.2 112 5) r41.2) fun r59 => Option.bind (m_X7_suspectBy x1 (0 : Int32) x2 (gI r59.2 112 5) r59.2) fun r74 => if x3 = 0 then Option.bind (m_X7_allWays r74.2) fun r84 => Option.bind (m_X7_allWays r84.2) fun r93 => Option.bind (m_X7_terms (((gI r93.2 112 7)).toInt64 * (r84.1 - r59.1)) ((((gI r93.2 112 7)).toInt64 * (r84.1 - r59.1)) + ((((100 : Int32) - (gI r93.2 112 7))).toInt64 * (r93.1 - r74.1))) x4 r93.2) fun r140 => some (r140.1, r140.2) else Option.bind (m_X7_terms (((gI r74.2 112 7)).toInt64 * r59.1) ((((gI r74.2 112 7)).toInt64 * r59.1) + ((((100 : Int32) - (gI r74.2 112 7))).toInt64 * r74.1)) x4 r74.2) fun r140 => some (r140.1, r140.2) else some ((0 : Int64), r41.2) else some ((0 : Int64), r28.2) else Option.bind (m_X7_isHalf x4 r7.2) fun r15 => if r15.1 = 0 then Option.bind (m_X7_bad (1 : Int32) (1 : Int32) (1 : Int32) r15.2) fun r28 => if r28.1 = 0 then Option.bind (m_X7_isHidden r28.2) fun r36 => Option.bind (m_X7_bad r36.1 (2 : Int32) (2 : Int32) r36.2) fun r41 => if r41.1 = 0 then Option.bind (m_X7_suspectBy x1 (1 : Int32) x2 (gI r41.2 112 5) r41.2) fun r59 => Option.bind (m_X7_suspectBy x1 (0 : Int32) x2 (gI r59.2 112 5) r59.2) fun r74 => if x3 = 0 then Option.bind (m_X7_allWays r74.2) fun r84 => Option.bind (m_X7_allWays r84.2) fun r93 => Option.bind (m_X7_terms (((gI r93.2 112 7)).toInt64 * (r84.1 - r59.1)) ((((gI r93.2 112 7)).toInt64 * (r84.1 - r59.1)) + ((((100 : Int32) - (gI r93.2 112 7))).toInt64 * (r93.1 - r74.1))) x4 r93.2) fun r140 => some (r140.1, r140.2) else Option.bind (m_X7_terms (((gI r74.2 112 7)).toInt64 * r59.1) ((((gI r74.2 112 7)).toInt64 * r59.1) + ((((100 : Int32) - (gI r74.2 112 7))).toInt64 * r74.1)) x4 r74.2) fun r140 => some (r140.1, r140.2) else some ((0 : Int64), r41.2) else some ((0 : Int64), r28.2) else Option.bind (m_X7_bad (0 : Int32) (1 : Int32) (1 : Int32) r15.2) fun r28 => if r28.1 = 0 then Option.bind (m_X7_isHidden r28.2) fun r36 => Option.bind (m_X7_bad r36.1 (2 : Int32) (2 : Int32) r36.2) fun r41 => if r41.1 = 0 then Option.bind (m_X7_suspectBy x1 (1 : Int32) x2 (gI r41.2 112 5) r41.2) fun r59 => Option.bind (m_X7_suspectBy x1 (0 : Int32) x2 (gI r59.2 112 5) r59.2) fun r74 => if x3 = 0 then Option.bind (m_X7_allWays r74.2) fun r84 => Option.bind (m_X7_allWays r84.2) fun r93 => Option.bind (m_X7_terms (((gI r93.2 112 7)).toInt64 * (r84.1 - r59.1)) ((((gI r93.2 112 7)).toInt64 * (r84.1 - r59.1)) + ((((100 : Int32) - (gI r93.2 112 7))).toInt64 * (r93.1 - r74.1))) x4 r93.2) fun r140 => some (r140.1, r140.2) else Option.bind (m_X7_terms (((gI r74.2 112 7)).toInt64 * r59.1) ((((gI r74.2 112 7)).toInt64 * r59.1) + ((((100 : Int32) - (gI r74.2 112 7))).toInt64 * r74.1)) x4 r74.2) fun r140 => some (r140.1, r140.2) else some ((0 : Int64), r41.2) else some ((0 : Int64), r28.2)
def l_X7_cut_48 : Nat → Int32 → Int32 → Int64 → Int32 → iS → Option (Int32 × iS)
  | 0, _, _, _, _, _ => none
  | n + 1, y1, y2, y3, y5, ι => if (120 : Int32) < y5 then some (y2, ι) else Option.bind (m_X7_suspectBy y1 (1 : Int32) (1 : Int32) y5 ι) fun r61 => Option.bind (m_X7_suspectBy y1 (0 : Int32) (1 : Int32) y5 r61.2) fun r70 => if y5 ≤ 0 then l_X7_cut_48 n y1 y5 (r61.1 - r70.1) (y5 + 1) r70.2 else if 0 < (lg_cmp (r61.1 - r70.1) y3) then l_X7_cut_48 n y1 y5 (r61.1 - r70.1) (y5 + 1) r70.2 else l_X7_cut_48 n y1 y2 y3 (y5 + 1) r70.2
def m_X7_cut (x1 : Int32) (ι : iS) : Option (Int32 × iS) := Option.bind (m_X7_isHalf x1 (pI ι 109 0 (0 : Int32))) fun r7 => if r7.1 = 0 then Option.bind (m_X7_bad (1 : Int32) (1 : Int32) (1 : Int32) r7.2) fun r20 => if r20.1 = 0 then Option.bind (m_X7_isHidden r20.2) fun r28 => Option.bind (m_X7_bad r28.1 (2 : Int32) (2 : Int32) r28.2) fun r33 => if r33.1 = 0 then l_X7_cut_48 aF x1 (0 : Int32) (0 : Int64) (0 : Int32) r33.2 else some ((0 : Int32), r33.2) else some ((0 : Int32), r20.2) else Option.bind (m_X7_bad (0 : Int32) (1 : Int32) (1 : Int32) r7.2) fun r20 => if r20.1 = 0 then Option.bind (m_X7_isHidden r20.2) fun r28 => Option.bind (m_X7_bad r28.1 (2 : Int32) (2 : Int32) r28.2) fun r33 => if r33.1 = 0 then l_X7_cut_48 aF x1 (0 : Int32) (0 : Int64) (0 : Int32) r33.2 else some ((0 : Int32), r33.2) else some ((0 : Int32), r20.2)
def m_X7_nudged (x1 : Int32) (ι : iS) : Option (Int32 × iS) := Option.bind (m_X7_isHalf x1 (pI ι 109 0 (0 : Int32))) fun r7 => if r7.1 = 0 then Option.bind (m_X7_bad (1 : Int32) (1 : Int32) (1 : Int32) r7.2) fun r20 => if r20.1 = 0 then Option.bind (m_X7_isHidden r20.2) fun r28 => Option.bind (m_X7_bad r28.1 (2 : Int32) (2 : Int32) r28.2) fun r33 => if r33.1 = 0 then Option.bind (m_X7_suspectBy x1 (0 : Int32) (0 : Int32) (gI r33.2 112 5) r33.2) fun r51 => Option.bind (m_X7_suspectBy x1 (0 : Int32) (1 : Int32) (gI r51.2 112 5) r51.2) fun r64 => Option.bind (m_X7_allWays r64.2) fun r75 => if ¬ r75.1 = 0 then some (((((100 : Int64) * (r51.1 - r64.1)) / r75.1)).toInt32, r75.2) else none else some ((0 : Int32), r33.2) else some ((0 : Int32), r20.2) else Option.bind (m_X7_bad (0 : Int32) (1 : Int32) (1 : Int32) r7.2) fun r20 => if r20.1 = 0 then Option.bind (m_X7_isHidden r20.2) fun r28 => Option.bind (m_X7_bad r28.1 (2 : Int32) (2 : Int32) r28.2) fun r33 => if r33.1 = 0 then Option.bind (m_X7_suspectBy x1 (0 : Int32) (0 : Int32) (gI r33.2 112 5) r33.2) fun r51 => Option.bind (m_X7_suspectBy x1 (0 : Int32) (1 : Int32) (gI r51.2 112 5) r51.2) fun r64 => Option.bind (m_X7_allWays r64.2) fun r75 => if ¬ r75.1 = 0 then some (((((100 : Int64) * (r51.1 - r64.1)) / r75.1)).toInt32, r75.2) else none else some ((0 : Int32), r33.2) else some ((0 : Int32), r20.2)
def l_X7_print_9 : Nat → Int64 → Int32 → iS → Option (Int64 × iS)
  | 0, _, _, _ => none
  | n + 1, y1, y3, ι => if (gI ι 112 3) ≤ y3 then some ((((31 : Int64) * y1) + ((gI ι 112 5)).toInt64), ι) else if aIn ((99 : Int32) + y3) 883 = true then if aIn ((99 : Int32) + y3) 883 = true then if aIn ((107 : Int32) + (gI ι 112 ((99 : Int32) + y3).toNatClampNeg)) 883 = true then l_X7_print_9 n (((31 : Int64) * (((31 : Int64) * y1) + ((gI ι 112 ((99 : Int32) + y3).toNatClampNeg)).toInt64)) + ((gI ι 112 ((107 : Int32) + (gI ι 112 ((99 : Int32) + y3).toNatClampNeg)).toNatClampNeg)).toInt64) (y3 + 1) ι else none else none else none
def m_X7_print (ι : iS) : Option (Int64 × iS) := l_X7_print_9 aF (0 : Int64) (0 : Int32) (pI ι 109 0 (0 : Int32))
def m_X7_status (x1 : Int32) (ι : iS) : Option (Int32 × iS) := Option.bind (m_X7_in x1 (0 : Int32) (2 : Int32) (pI ι 109 0 (0 : Int32))) fun r8 => if r8.1 = 0 then some ((-1 : Int32), r8.2) else if aIn x1 3 = true then some ((gI r8.2 110 x1.toNatClampNeg), r8.2) else none
def rm_X7_feels : Room := { frames := 4, cells := 0, slots := 0, locals := 100 }
set_option maxHeartbeats 4000000 in
set_option maxRecDepth 100000 in
theorem tl_X7_feels_2 (l : Launch) {p : Program} {e : Env} {s : State} {m : MethodId} {args : Array Value} {below : List Frame} {meth : Method} {c : Code} {D : va_G} {dA : Nat → ClassId} {ad adV : Nat → Nat} {A : Nat → Prop} (C : aX p m c cX7_feels 4 s args aTs RX7 meth none) {res : iS} : ∀ (n : Nat) (y1 : Int32) (y2 : Int32) (y3 : Int32) {ι : iS}, l_X7_feels_2 n y1 y2 y3 ι = some res → ∀ {H : Heap} {locs : List Loc} {ls : Array Slot}, aW D dA ad adV (aG ι) A s H locs → lv_has ls 4 [(0, .ref (ad 109)), (1, .int y1), (2, .int y2), (3, .int y3)] → W p l e rm_X7_feels s m args below meth c H locs 0 0 (MQ below (aQ D dA ad (aG res) A none) args s 0 0 A) (F0 m 2 ls []) := by
  have hx := C.1.1
  have hb := C.1.2.1
  have hml := C.1.2.2.1
  have hown := C.1.2.2.2.1
  have hts := C.1.2.2.2.2
  intro n
  induction n with
  | zero => intro y1 y2 y3 ι hM; simp [l_X7_feels_2] at hM
  | succ n ih =>
    intro y1 y2 y3 ι hM H locs ls hw hl
    rw [l_X7_feels_2] at hM
    refine lv_iload_n hx hb dX7_feels_2 rfl (lv_at hl 3 rfl) ?_
    refine lv_aload_n hx hb dX7_feels_3 rfl (lv_at hl 0 rfl) ?_
    refine a_getp (q := 112) (σ := aG ι) (o := 109) (T := TX7) (N := 20) C wU_X7 hw rfl (by decide) rfl 9 (by decide) rfl wF_X7_20 (aG_P rfl rfl) dX7_feels_4 ?_
    refine lv_iconst (v := (3 : Int32)) hx hb dX7_feels_7 (by decide) ?_
    refine a_iald (σ := aG ι) (o := 112) C hw rfl (aIn_v (by decide)) (show (3 : Int32).toNatClampNeg = 3 by decide) dX7_feels_8 ?_
    refine lv_icmp_ge (tgt := 66) hx hb dX7_feels_9 (by decide) (fun hc => ?_) (fun hc => ?_)
    · replace hM := h_t hc hM
      cases h_e hM
      exact a_vret C hw dX7_feels_66
    · replace hM := h_f hc hM
      refine lv_aload_n hx hb dX7_feels_12 rfl (lv_at hl 0 rfl) ?_
      refine a_getp (q := 124) (σ := aG ι) (o := 109) (T := TX7) (N := 20) C wU_X7 hw rfl (by decide) rfl 17 (by decide) rfl wF_X7_35 (aG_P rfl rfl) dX7_feels_13 ?_
      refine lv_iload_n hx hb dX7_feels_16 rfl (lv_at hl 3 rfl) ?_
      refine lv_aload_n hx hb dX7_feels_17 rfl (lv_at hl 0 rfl) ?_
      refine lv_aload_n hx hb dX7_feels_18 rfl (lv_at hl 0 rfl) ?_
      refine a_getp (q := 112) (σ := aG ι) (o := 109) (T := TX7) (N := 20) C wU_X7 hw rfl (by decide) rfl 9 (by decide) rfl wF_X7_20 (aG_P rfl rfl) dX7_feels_19 ?_
      refine lv_bipush (v := (99 : Int32)) hx hb dX7_feels_22 (by decide) ?_
      refine lv_iload_n hx hb dX7_feels_24 rfl (lv_at hl 3 rfl) ?_
      refine lv_iadd hx hb dX7_feels_25 ?_
      obtain ⟨hi, hM⟩ := h_i hM
      refine a_iald (σ := aG ι) (o := 112) C hw rfl hi rfl dX7_feels_26 ?_
      refine lv_iload_n hx hb dX7_feels_27 rfl (lv_at hl 1 rfl) ?_
      obtain ⟨r28, hr28, hM⟩ := h_b hM
      refine a_callV (σ' := aG r28.2) (v := (some (.int r28.1))) (As := fun ad => [.int (gI ι 112 ((99 : Int32) + y3).toNatClampNeg), .int y1]) (rest := [.int y3, .ref (ad 124)]) (o := 109) C hw (c_X7_matchOf l hr28) k_X7_matchOf wM_X7_219 ⟨⟨rfl, rfl⟩, ⟨Nat.le_of_ble_eq_true rfl, Nat.le_of_ble_eq_true rfl⟩⟩ rfl (by decide) rfl rfl rfl hl rfl (Nat.le_of_ble_eq_true rfl) dX7_feels_28 ⟨Nat.zero_le _, Nat.zero_le _⟩ (fun H locs hw => ?_)
      refine lv_aload_n hx hb dX7_feels_31 rfl (lv_at hl 0 rfl) ?_
      refine a_getp (q := 112) (σ := aG r28.2) (o := 109) (T := TX7) (N := 20) C wU_X7 hw rfl (by decide) rfl 9 (by decide) rfl wF_X7_20 (aG_P rfl rfl) dX7_feels_32 ?_
      refine lv_bipush (v := (99 : Int32)) hx hb dX7_feels_35 (by decide) ?_
      refine lv_iload_n hx hb dX7_feels_37 rfl (lv_at hl 3 rfl) ?_
      refine lv_iadd hx hb dX7_feels_38 ?_
      obtain ⟨hi, hM⟩ := h_i hM
      refine a_iald (σ := aG r28.2) (o := 112) C hw rfl hi rfl dX7_feels_39 ?_
      refine lv_if_ne (tgt := 57) hx hb dX7_feels_40 (by decide) (fun hc => ?_) (fun hc => ?_)
      · replace hM := h_f hc hM
        refine lv_iconst (v := (0 : Int32)) hx hb dX7_feels_57 (by decide) ?_
        refine lv_iadd hx hb dX7_feels_58 ?_
        obtain ⟨hi, hM⟩ := h_i hM
        refine a_iast (σ := aG r28.2) (o := 124) C hw rfl hi rfl dX7_feels_59 (fun H locs hw => ?_)
        have hw : aW D dA ad adV (aG (pI r28.2 124 y3.toNatClampNeg (r28.1 + (0 : Int32)))) A s H locs := hw
        refine lv_iinc (v := (y3 + 1)) (lv' := [(3, .int (y3 + 1)), (0, .ref (ad 109)), (1, .int y1), (2, .int y2)]) hx hb dX7_feels_60 hl (k := 3) rfl rfl (by decide) rfl (fun ls hl => ?_)
        refine lv_goto (tgt := 2) hx hb dX7_feels_63 (by decide) ?_
        exact ih (y1) (y2) ((y3 + 1)) hM hw (lv_sub hl [1, 2, 3, 0] rfl)
      · replace hM := h_t hc hM
        refine lv_iload_n hx hb dX7_feels_43 rfl (lv_at hl 2 rfl) ?_
        refine lv_if_ne (tgt := 57) hx hb dX7_feels_44 (by decide) (fun hc => ?_) (fun hc => ?_)
        · replace hM := h_f hc hM
          refine lv_iconst (v := (0 : Int32)) hx hb dX7_feels_57 (by decide) ?_
          refine lv_iadd hx hb dX7_feels_58 ?_
          obtain ⟨hi, hM⟩ := h_i hM
          refine a_iast (σ := aG r28.2) (o := 124) C hw rfl hi rfl dX7_feels_59 (fun H locs hw => ?_)
          have hw : aW D dA ad adV (aG (pI r28.2 124 y3.toNatClampNeg (r28.1 + (0 : Int32)))) A s H locs := hw
          refine lv_iinc (v := (y3 + 1)) (lv' := [(3, .int (y3 + 1)), (0, .ref (ad 109)), (1, .int y1), (2, .int y2)]) hx hb dX7_feels_60 hl (k := 3) rfl rfl (by decide) rfl (fun ls hl => ?_)
          refine lv_goto (tgt := 2) hx hb dX7_feels_63 (by decide) ?_
          exact ih (y1) (y2) ((y3 + 1)) hM hw (lv_sub hl [1, 2, 3, 0] rfl)
        · replace hM := h_t hc hM
          refine lv_aload_n hx hb dX7_feels_47 rfl (lv_at hl 0 rfl) ?_
          refine a_getp (q := 112) (σ := aG r28.2) (o := 109) (T := TX7) (N := 20) C wU_X7 hw rfl (by decide) rfl 9 (by decide) rfl wF_X7_20 (aG_P rfl rfl) dX7_feels_48 ?_
          refine lv_bipush (v := (6 : Int32)) hx hb dX7_feels_51 (by decide) ?_
          refine a_iald (σ := aG r28.2) (o := 112) C hw rfl (aIn_v (by decide)) (show (6 : Int32).toNatClampNeg = 6 by decide) dX7_feels_53 ?_
          refine lv_goto (tgt := 58) hx hb dX7_feels_54 (by decide) ?_
          refine lv_iadd hx hb dX7_feels_58 ?_
          obtain ⟨hi, hM⟩ := h_i hM
          refine a_iast (σ := aG r28.2) (o := 124) C hw rfl hi rfl dX7_feels_59 (fun H locs hw => ?_)
          have hw : aW D dA ad adV (aG (pI r28.2 124 y3.toNatClampNeg (r28.1 + (gI r28.2 112 6)))) A s H locs := hw
          refine lv_iinc (v := (y3 + 1)) (lv' := [(3, .int (y3 + 1)), (0, .ref (ad 109)), (1, .int y1), (2, .int y2)]) hx hb dX7_feels_60 hl (k := 3) rfl rfl (by decide) rfl (fun ls hl => ?_)
          refine lv_goto (tgt := 2) hx hb dX7_feels_63 (by decide) ?_
          exact ih (y1) (y2) ((y3 + 1)) hM hw (lv_sub hl [1, 2, 3, 0] rfl)
theorem k_X7_feels : aCal RX7 yX7_feels cX7_feels 4 none 2 := ⟨wI_yX7_feels, wE_yX7_feels, wZ_X7, wC_yX7_feels, by decide +kernel⟩
set_option maxHeartbeats 4000000 in
set_option maxRecDepth 100000 in
theorem c_X7_feels (l : Launch) {x1 : Int32} {x2 : Int32} {ι : iS} {res : iS} (hM : m_X7_feels x1 x2 ι = some res) : aM l yX7_feels cX7_feels 4 none rm_X7_feels (fun ad => [.ref (ad 109), .int x1, .int x2]) (aG ι) none (aG res) := by
  refine aM.of (by decide) (fun _ => Nat.le_of_ble_eq_true rfl) ?_
  intro p e s m args below meth c D dA ad adV A ls C hw hl
  have C : aX p m c cX7_feels 4 s args aTs RX7 meth none := C
  have hx := C.1.1
  have hb := C.1.2.1
  have hml := C.1.2.2.1
  have hown := C.1.2.2.2.1
  have hts := C.1.2.2.2.2
  have hl : lv_has ls 4 [(0, .ref (ad 109)), (1, .int x1), (2, .int x2)] := hl
  unfold m_X7_feels at hM
  refine lv_iconst (v := (0 : Int32)) hx hb dX7_feels_0 (by decide) ?_
  refine lv_istore_n (lv' := [(3, .int (0 : Int32)), (0, .ref (ad 109)), (1, .int x1), (2, .int x2)]) hx hb dX7_feels_1 rfl hl (by decide) rfl (fun ls hl => ?_)
  exact tl_X7_feels_2 l C aF (x1) (x2) ((0 : Int32)) hM hw (lv_sub hl [1, 2, 3, 0] rfl)
def rm_X7_each : Room := { frames := 0, cells := 0, slots := 0, locals := 0 }
theorem k_X7_each : aCal RX7 yX7_each cX7_each 1 (some .int) 0 := ⟨wI_yX7_each, wE_yX7_each, wZ_X7, wC_yX7_each, by decide +kernel⟩
set_option maxHeartbeats 4000000 in
set_option maxRecDepth 100000 in
theorem c_X7_each (l : Launch) {ι : iS} {res : Int32 × iS} (hM : m_X7_each ι = some res) : aM l yX7_each cX7_each 1 (some .int) rm_X7_each (fun ad => [.ref (ad 109)]) (aG ι) (some (.int res.1)) (aG res.2) := by
  refine aM.of (by decide) (fun _ => Nat.le_of_ble_eq_true rfl) ?_
  intro p e s m args below meth c D dA ad adV A ls C hw hl
  have C : aX p m c cX7_each 1 s args aTs RX7 meth (some .int) := C
  have hx := C.1.1
  have hb := C.1.2.1
  have hml := C.1.2.2.1
  have hown := C.1.2.2.2.1
  have hts := C.1.2.2.2.2
  have hl : lv_has ls 1 [(0, .ref (ad 109))] := hl
  unfold m_X7_each at hM
  refine lv_iconst (v := (2 : Int32)) hx hb dX7_each_0 (by decide) ?_
  refine lv_aload_n hx hb dX7_each_1 rfl (lv_at hl 0 rfl) ?_
  refine a_getp (q := 112) (σ := aG ι) (o := 109) (T := TX7) (N := 20) C wU_X7 hw rfl (by decide) rfl 9 (by decide) rfl wF_X7_20 (aG_P rfl rfl) dX7_each_2 ?_
  refine lv_iconst (v := (4 : Int32)) hx hb dX7_each_5 (by decide) ?_
  refine a_iald (σ := aG ι) (o := 112) C hw rfl (aIn_v (by decide)) (show (4 : Int32).toNatClampNeg = 4 by decide) dX7_each_6 ?_
  refine lv_imul hx hb dX7_each_7 ?_
  refine lv_iconst (v := (1 : Int32)) hx hb dX7_each_8 (by decide) ?_
  refine lv_iadd hx hb dX7_each_9 ?_
  cases h_e hM
  exact a_iret C hw dX7_each_10
def rm_X7_below : Room := { frames := 1, cells := 0, slots := 0, locals := 21 }
theorem k_X7_below : aCal RX7 yX7_below cX7_below 3 (some .int) 2 := ⟨wI_yX7_below, wE_yX7_below, wZ_X7, wC_yX7_below, by decide +kernel⟩
set_option maxHeartbeats 4000000 in
set_option maxRecDepth 100000 in
theorem c_X7_below (l : Launch) {x1 : Int32} {x2 : Int32} {ι : iS} {res : Int32 × iS} (hM : m_X7_below x1 x2 ι = some res) : aM l yX7_below cX7_below 3 (some .int) rm_X7_below (fun ad => [.ref (ad 109), .int x1, .int x2]) (aG ι) (some (.int res.1)) (aG res.2) := by
  refine aM.of (by decide) (fun _ => Nat.le_of_ble_eq_true rfl) ?_
  intro p e s m args below meth c D dA ad adV A ls C hw hl
  have C : aX p m c cX7_below 3 s args aTs RX7 meth (some .int) := C
  have hx := C.1.1
  have hb := C.1.2.1
  have hml := C.1.2.2.1
  have hown := C.1.2.2.2.1
  have hts := C.1.2.2.2.2
  have hl : lv_has ls 3 [(0, .ref (ad 109)), (1, .int x1), (2, .int x2)] := hl
  unfold m_X7_below at hM
  refine lv_aload_n hx hb dX7_below_0 rfl (lv_at hl 0 rfl) ?_
  obtain ⟨r1, hr1, hM⟩ := h_b hM
  refine a_callV (σ' := aG r1.2) (v := (some (.int r1.1))) (As := fun ad => []) (rest := []) (o := 109) C hw (c_X7_each l hr1) k_X7_each wM_X7_223 ⟨⟨rfl, rfl⟩, ⟨Nat.le_of_ble_eq_true rfl, Nat.le_of_ble_eq_true rfl⟩⟩ rfl (by decide) rfl rfl rfl hl rfl (Nat.le_of_ble_eq_true rfl) dX7_below_1 ⟨Nat.zero_le _, Nat.zero_le _⟩ (fun H locs hw => ?_)
  refine lv_iconst (v := (0 : Int32)) hx hb dX7_below_4 (by decide) ?_
  refine lv_iload_n hx hb dX7_below_5 rfl (lv_at hl 2 rfl) ?_
  refine lv_aload_n hx hb dX7_below_6 rfl (lv_at hl 0 rfl) ?_
  refine a_getp (q := 124) (σ := aG r1.2) (o := 109) (T := TX7) (N := 20) C wU_X7 hw rfl (by decide) rfl 17 (by decide) rfl wF_X7_35 (aG_P rfl rfl) dX7_below_7 ?_
  refine lv_iload_n hx hb dX7_below_10 rfl (lv_at hl 1 rfl) ?_
  obtain ⟨hi, hM⟩ := h_i hM
  refine a_iald (σ := aG r1.2) (o := 124) C hw rfl hi rfl dX7_below_11 ?_
  refine lv_aload_n hx hb dX7_below_12 rfl (lv_at hl 0 rfl) ?_
  refine a_getp (q := 112) (σ := aG r1.2) (o := 109) (T := TX7) (N := 20) C wU_X7 hw rfl (by decide) rfl 9 (by decide) rfl wF_X7_20 (aG_P rfl rfl) dX7_below_13 ?_
  refine lv_iconst (v := (4 : Int32)) hx hb dX7_below_16 (by decide) ?_
  refine a_iald (σ := aG r1.2) (o := 112) C hw rfl (aIn_v (by decide)) (show (4 : Int32).toNatClampNeg = 4 by decide) dX7_below_17 ?_
  refine lv_isub hx hb dX7_below_18 ?_
  refine lv_isub hx hb dX7_below_19 ?_
  obtain ⟨r20, hr20, hM⟩ := h_b hM
  refine a_callS  (σ' := aG r20.2) (v := (some (.int r20.1))) (as := fun ad => [.int (0 : Int32), .int (x2 - ((gI r1.2 124 x1.toNatClampNeg) - (gI r1.2 112 4)))]) (rest := [.int r1.1]) C hw (c_X7_more l hr20) k_X7_more wM_X7_226 ⟨⟨rfl, rfl⟩, ⟨Nat.le_of_ble_eq_true rfl, Nat.le_of_ble_eq_true rfl⟩⟩ rfl hl rfl (Nat.le_of_ble_eq_true rfl) dX7_below_20 ⟨Nat.zero_le _, Nat.zero_le _⟩ (fun H locs hw => ?_)
  obtain ⟨r23, hr23, hM⟩ := h_b hM
  refine a_callS  (σ' := aG r23.2) (v := (some (.int r23.1))) (as := fun ad => [.int r1.1, .int r20.1]) (rest := []) C hw (c_X7_less l hr23) k_X7_less wM_X7_94 ⟨⟨rfl, rfl⟩, ⟨Nat.le_of_ble_eq_true rfl, Nat.le_of_ble_eq_true rfl⟩⟩ rfl hl rfl (Nat.le_of_ble_eq_true rfl) dX7_below_23 ⟨Nat.zero_le _, Nat.zero_le _⟩ (fun H locs hw => ?_)
  cases h_e hM
  exact a_iret C hw dX7_below_26
def rm_X7_allWays : Room := { frames := 1, cells := 0, slots := 0, locals := 20 }
set_option maxHeartbeats 4000000 in
set_option maxRecDepth 100000 in
theorem tl_X7_allWays_4 (l : Launch) {p : Program} {e : Env} {s : State} {m : MethodId} {args : Array Value} {below : List Frame} {meth : Method} {c : Code} {D : va_G} {dA : Nat → ClassId} {ad adV : Nat → Nat} {A : Nat → Prop} (C : aX p m c cX7_allWays 4 s args aTs RX7 meth (some .long)) {res : Int64 × iS} : ∀ (n : Nat) (y1 : Int64) (y3 : Int32) {ι : iS}, l_X7_allWays_4 n y1 y3 ι = some res → ∀ {H : Heap} {locs : List Loc} {ls : Array Slot}, aW D dA ad adV (aG ι) A s H locs → lv_has ls 4 [(0, .ref (ad 109)), (1, .long y1), (3, .int y3)] → W p l e rm_X7_allWays s m args below meth c H locs 0 0 (MQ below (aQ D dA ad (aG res.2) A (some (.long res.1))) args s 0 0 A) (F0 m 4 ls []) := by
  have hx := C.1.1
  have hb := C.1.2.1
  have hml := C.1.2.2.1
  have hown := C.1.2.2.2.1
  have hts := C.1.2.2.2.2
  intro n
  induction n with
  | zero => intro y1 y3 ι hM; simp [l_X7_allWays_4] at hM
  | succ n ih =>
    intro y1 y3 ι hM H locs ls hw hl
    rw [l_X7_allWays_4] at hM
    refine lv_iload_n hx hb dX7_allWays_4 rfl (lv_at hl 2 rfl) ?_
    refine lv_aload_n hx hb dX7_allWays_5 rfl (lv_at hl 0 rfl) ?_
    refine a_getp (q := 112) (σ := aG ι) (o := 109) (T := TX7) (N := 20) C wU_X7 hw rfl (by decide) rfl 9 (by decide) rfl wF_X7_20 (aG_P rfl rfl) dX7_allWays_6 ?_
    refine lv_iconst (v := (3 : Int32)) hx hb dX7_allWays_9 (by decide) ?_
    refine a_iald (σ := aG ι) (o := 112) C hw rfl (aIn_v (by decide)) (show (3 : Int32).toNatClampNeg = 3 by decide) dX7_allWays_10 ?_
    refine lv_icmp_ge (tgt := 28) hx hb dX7_allWays_11 (by decide) (fun hc => ?_) (fun hc => ?_)
    · replace hM := h_t hc hM
      refine lv_lload_n hx hb dX7_allWays_28 rfl (lv_at hl 1 rfl) ?_
      cases h_e hM
      exact a_lret C hw dX7_allWays_29
    · replace hM := h_f hc hM
      refine lv_lload_n hx hb dX7_allWays_14 rfl (lv_at hl 1 rfl) ?_
      refine lv_aload_n hx hb dX7_allWays_15 rfl (lv_at hl 0 rfl) ?_
      obtain ⟨r16, hr16, hM⟩ := h_b hM
      refine a_callV (σ' := aG r16.2) (v := (some (.int r16.1))) (As := fun ad => []) (rest := [.long y1]) (o := 109) C hw (c_X7_each l hr16) k_X7_each wM_X7_223 ⟨⟨rfl, rfl⟩, ⟨Nat.le_of_ble_eq_true rfl, Nat.le_of_ble_eq_true rfl⟩⟩ rfl (by decide) rfl rfl rfl hl rfl (Nat.le_of_ble_eq_true rfl) dX7_allWays_16 ⟨Nat.zero_le _, Nat.zero_le _⟩ (fun H locs hw => ?_)
      refine lv_i2l hx hb dX7_allWays_19 rfl ?_
      refine lv_lmul hx hb dX7_allWays_20 ?_
      refine lv_lstore_n (lv' := [(1, .long (y1 * (r16.1).toInt64)), (0, .ref (ad 109)), (3, .int y3)]) hx hb dX7_allWays_21 rfl hl (by decide) rfl (fun ls hl => ?_)
      refine lv_iinc (v := (y3 + 1)) (lv' := [(3, .int (y3 + 1)), (1, .long (y1 * (r16.1).toInt64)), (0, .ref (ad 109))]) hx hb dX7_allWays_22 hl (k := 2) rfl rfl (by decide) rfl (fun ls hl => ?_)
      refine lv_goto (tgt := 4) hx hb dX7_allWays_25 (by decide) ?_
      exact ih ((y1 * (r16.1).toInt64)) ((y3 + 1)) hM hw (lv_sub hl [2, 1, 0] rfl)
theorem k_X7_allWays : aCal RX7 yX7_allWays cX7_allWays 4 (some .long) 0 := ⟨wI_yX7_allWays, wE_yX7_allWays, wZ_X7, wC_yX7_allWays, by decide +kernel⟩
set_option maxHeartbeats 4000000 in
set_option maxRecDepth 100000 in
theorem c_X7_allWays (l : Launch) {ι : iS} {res : Int64 × iS} (hM : m_X7_allWays ι = some res) : aM l yX7_allWays cX7_allWays 4 (some .long) rm_X7_allWays (fun ad => [.ref (ad 109)]) (aG ι) (some (.long res.1)) (aG res.2) := by
  refine aM.of (by decide) (fun _ => Nat.le_of_ble_eq_true rfl) ?_
  intro p e s m args below meth c D dA ad adV A ls C hw hl
  have C : aX p m c cX7_allWays 4 s args aTs RX7 meth (some .long) := C
  have hx := C.1.1
  have hb := C.1.2.1
  have hml := C.1.2.2.1
  have hown := C.1.2.2.2.1
  have hts := C.1.2.2.2.2
  have hl : lv_has ls 4 [(0, .ref (ad 109))] := hl
  unfold m_X7_allWays at hM
  refine lv_lconst (v := (1 : Int64)) hx hb dX7_allWays_0 (by decide) ?_
  refine lv_lstore_n (lv' := [(1, .long (1 : Int64)), (0, .ref (ad 109))]) hx hb dX7_allWays_1 rfl hl (by decide) rfl (fun ls hl => ?_)
  refine lv_iconst (v := (0 : Int32)) hx hb dX7_allWays_2 (by decide) ?_
  refine lv_istore_n (lv' := [(3, .int (0 : Int32)), (1, .long (1 : Int64)), (0, .ref (ad 109))]) hx hb dX7_allWays_3 rfl hl (by decide) rfl (fun ls hl => ?_)
  exact tl_X7_allWays_4 l C aF ((1 : Int64)) ((0 : Int32)) hM hw (lv_sub hl [2, 1, 0] rfl)
def rm_X7_oneByOne : Room := { frames := 2, cells := 0, slots := 0, locals := 43 }
set_option maxHeartbeats 4000000 in
set_option maxRecDepth 100000 in
theorem tl_X7_oneByOne_16 (l : Launch) {p : Program} {e : Env} {s : State} {m : MethodId} {args : Array Value} {below : List Frame} {meth : Method} {c : Code} {D : va_G} {dA : Nat → ClassId} {ad adV : Nat → Nat} {A : Nat → Prop} (C : aX p m c cX7_oneByOne 6 s args aTs RX7 meth (some .long)) {res : Int64 × iS} : ∀ (n : Nat) (y1 : Int32) (y2 : Int32) (y3 : Int64) (y5 : Int32) {ι : iS}, l_X7_oneByOne_16 n y1 y2 y3 y5 ι = some res → ∀ {H : Heap} {locs : List Loc} {ls : Array Slot}, aW D dA ad adV (aG ι) A s H locs → lv_has ls 6 [(0, .ref (ad 109)), (1, .int y1), (2, .int y2), (3, .long y3), (5, .int y5)] → W p l e rm_X7_oneByOne s m args below meth c H locs 0 0 (MQ below (aQ D dA ad (aG res.2) A (some (.long res.1))) args s 0 0 A) (F0 m 16 ls []) := by
  have hx := C.1.1
  have hb := C.1.2.1
  have hml := C.1.2.2.1
  have hown := C.1.2.2.2.1
  have hts := C.1.2.2.2.2
  intro n
  induction n with
  | zero => intro y1 y2 y3 y5 ι hM; simp [l_X7_oneByOne_16] at hM
  | succ n ih =>
    intro y1 y2 y3 y5 ι hM H locs ls hw hl
    rw [l_X7_oneByOne_16] at hM
    refine lv_iload hx hb dX7_oneByOne_16 (lv_at hl 4 rfl) ?_
    refine lv_aload_n hx hb dX7_oneByOne_18 rfl (lv_at hl 0 rfl) ?_
    refine a_getp (q := 112) (σ := aG ι) (o := 109) (T := TX7) (N := 20) C wU_X7 hw rfl (by decide) rfl 9 (by decide) rfl wF_X7_20 (aG_P rfl rfl) dX7_oneByOne_19 ?_
    refine lv_iconst (v := (3 : Int32)) hx hb dX7_oneByOne_22 (by decide) ?_
    refine a_iald (σ := aG ι) (o := 112) C hw rfl (aIn_v (by decide)) (show (3 : Int32).toNatClampNeg = 3 by decide) dX7_oneByOne_23 ?_
    refine lv_icmp_ge (tgt := 68) hx hb dX7_oneByOne_24 (by decide) (fun hc => ?_) (fun hc => ?_)
    · replace hM := h_t hc hM
      refine lv_lload_n hx hb dX7_oneByOne_68 rfl (lv_at hl 3 rfl) ?_
      cases h_e hM
      exact a_lret C hw dX7_oneByOne_69
    · replace hM := h_f hc hM
      refine lv_lload_n hx hb dX7_oneByOne_27 rfl (lv_at hl 3 rfl) ?_
      refine lv_iload hx hb dX7_oneByOne_28 (lv_at hl 4 rfl) ?_
      refine lv_iload_n hx hb dX7_oneByOne_30 rfl (lv_at hl 1 rfl) ?_
      refine lv_icmp_ge (tgt := 45) hx hb dX7_oneByOne_31 (by decide) (fun hc => ?_) (fun hc => ?_)
      · replace hM := h_t hc hM
        refine lv_iload hx hb dX7_oneByOne_45 (lv_at hl 4 rfl) ?_
        refine lv_iload_n hx hb dX7_oneByOne_47 rfl (lv_at hl 1 rfl) ?_
        refine lv_icmp_le (tgt := 59) hx hb dX7_oneByOne_48 (by decide) (fun hc => ?_) (fun hc => ?_)
        · replace hM := h_t hc hM
          refine lv_lconst (v := (1 : Int64)) hx hb dX7_oneByOne_59 (by decide) ?_
          refine lv_lmul hx hb dX7_oneByOne_60 ?_
          refine lv_lstore_n (lv' := [(3, .long (y3 * (1 : Int64))), (0, .ref (ad 109)), (1, .int y1), (2, .int y2), (5, .int y5)]) hx hb dX7_oneByOne_61 rfl hl (by decide) rfl (fun ls hl => ?_)
          refine lv_iinc (v := (y5 + 1)) (lv' := [(5, .int (y5 + 1)), (3, .long (y3 * (1 : Int64))), (0, .ref (ad 109)), (1, .int y1), (2, .int y2)]) hx hb dX7_oneByOne_62 hl (k := 4) rfl rfl (by decide) rfl (fun ls hl => ?_)
          refine lv_goto (tgt := 16) hx hb dX7_oneByOne_65 (by decide) ?_
          exact ih (y1) (y2) ((y3 * (1 : Int64))) ((y5 + 1)) hM hw (lv_sub hl [2, 3, 4, 1, 0] rfl)
        · replace hM := h_f hc hM
          refine lv_aload_n hx hb dX7_oneByOne_51 rfl (lv_at hl 0 rfl) ?_
          obtain ⟨r52, hr52, hM⟩ := h_b hM
          refine a_callV (σ' := aG r52.2) (v := (some (.int r52.1))) (As := fun ad => []) (rest := [.long y3]) (o := 109) C hw (c_X7_each l hr52) k_X7_each wM_X7_223 ⟨⟨rfl, rfl⟩, ⟨Nat.le_of_ble_eq_true rfl, Nat.le_of_ble_eq_true rfl⟩⟩ rfl (by decide) rfl rfl rfl hl rfl (Nat.le_of_ble_eq_true rfl) dX7_oneByOne_52 ⟨Nat.zero_le _, Nat.zero_le _⟩ (fun H locs hw => ?_)
          refine lv_i2l hx hb dX7_oneByOne_55 rfl ?_
          refine lv_goto (tgt := 60) hx hb dX7_oneByOne_56 (by decide) ?_
          refine lv_lmul hx hb dX7_oneByOne_60 ?_
          refine lv_lstore_n (lv' := [(3, .long (y3 * (r52.1).toInt64)), (0, .ref (ad 109)), (1, .int y1), (2, .int y2), (5, .int y5)]) hx hb dX7_oneByOne_61 rfl hl (by decide) rfl (fun ls hl => ?_)
          refine lv_iinc (v := (y5 + 1)) (lv' := [(5, .int (y5 + 1)), (3, .long (y3 * (r52.1).toInt64)), (0, .ref (ad 109)), (1, .int y1), (2, .int y2)]) hx hb dX7_oneByOne_62 hl (k := 4) rfl rfl (by decide) rfl (fun ls hl => ?_)
          refine lv_goto (tgt := 16) hx hb dX7_oneByOne_65 (by decide) ?_
          exact ih (y1) (y2) ((y3 * (r52.1).toInt64)) ((y5 + 1)) hM hw (lv_sub hl [2, 3, 4, 1, 0] rfl)
      · replace hM := h_f hc hM
        refine lv_aload_n hx hb dX7_oneByOne_34 rfl (lv_at hl 0 rfl) ?_
        refine lv_iload hx hb dX7_oneByOne_35 (lv_at hl 4 rfl) ?_
        refine lv_iload_n hx hb dX7_oneByOne_37 rfl (lv_at hl 2 rfl) ?_
        obtain ⟨r38, hr38, hM⟩ := h_b hM
        refine a_callV (σ' := aG r38.2) (v := (some (.int r38.1))) (As := fun ad => [.int y5, .int y2]) (rest := [.long y3]) (o := 109) C hw (c_X7_below l hr38) k_X7_below wM_X7_229 ⟨⟨rfl, rfl⟩, ⟨Nat.le_of_ble_eq_true rfl, Nat.le_of_ble_eq_true rfl⟩⟩ rfl (by decide) rfl rfl rfl hl rfl (Nat.le_of_ble_eq_true rfl) dX7_oneByOne_38 ⟨Nat.zero_le _, Nat.zero_le _⟩ (fun H locs hw => ?_)
        refine lv_i2l hx hb dX7_oneByOne_41 rfl ?_
        refine lv_goto (tgt := 60) hx hb dX7_oneByOne_42 (by decide) ?_
        refine lv_lmul hx hb dX7_oneByOne_60 ?_
        refine lv_lstore_n (lv' := [(3, .long (y3 * (r38.1).toInt64)), (0, .ref (ad 109)), (1, .int y1), (2, .int y2), (5, .int y5)]) hx hb dX7_oneByOne_61 rfl hl (by decide) rfl (fun ls hl => ?_)
        refine lv_iinc (v := (y5 + 1)) (lv' := [(5, .int (y5 + 1)), (3, .long (y3 * (r38.1).toInt64)), (0, .ref (ad 109)), (1, .int y1), (2, .int y2)]) hx hb dX7_oneByOne_62 hl (k := 4) rfl rfl (by decide) rfl (fun ls hl => ?_)
        refine lv_goto (tgt := 16) hx hb dX7_oneByOne_65 (by decide) ?_
        exact ih (y1) (y2) ((y3 * (r38.1).toInt64)) ((y5 + 1)) hM hw (lv_sub hl [2, 3, 4, 1, 0] rfl)
theorem k_X7_oneByOne : aCal RX7 yX7_oneByOne cX7_oneByOne 6 (some .long) 2 := ⟨wI_yX7_oneByOne, wE_yX7_oneByOne, wZ_X7, wC_yX7_oneByOne, by decide +kernel⟩
set_option maxHeartbeats 4000000 in
set_option maxRecDepth 100000 in
theorem c_X7_oneByOne (l : Launch) {x1 : Int32} {x2 : Int32} {ι : iS} {res : Int64 × iS} (hM : m_X7_oneByOne x1 x2 ι = some res) : aM l yX7_oneByOne cX7_oneByOne 6 (some .long) rm_X7_oneByOne (fun ad => [.ref (ad 109), .int x1, .int x2]) (aG ι) (some (.long res.1)) (aG res.2) := by
  refine aM.of (by decide) (fun _ => Nat.le_of_ble_eq_true rfl) ?_
  intro p e s m args below meth c D dA ad adV A ls C hw hl
  have C : aX p m c cX7_oneByOne 6 s args aTs RX7 meth (some .long) := C
  have hx := C.1.1
  have hb := C.1.2.1
  have hml := C.1.2.2.1
  have hown := C.1.2.2.2.1
  have hts := C.1.2.2.2.2
  have hl : lv_has ls 6 [(0, .ref (ad 109)), (1, .int x1), (2, .int x2)] := hl
  unfold m_X7_oneByOne at hM
  refine lv_aload_n hx hb dX7_oneByOne_0 rfl (lv_at hl 0 rfl) ?_
  obtain ⟨r1, hr1, hM⟩ := h_b hM
  refine a_callV (σ' := aG r1.2) (v := (some (.int r1.1))) (As := fun ad => []) (rest := []) (o := 109) C hw (c_X7_each l hr1) k_X7_each wM_X7_223 ⟨⟨rfl, rfl⟩, ⟨Nat.le_of_ble_eq_true rfl, Nat.le_of_ble_eq_true rfl⟩⟩ rfl (by decide) rfl rfl rfl hl rfl (Nat.le_of_ble_eq_true rfl) dX7_oneByOne_1 ⟨Nat.zero_le _, Nat.zero_le _⟩ (fun H locs hw => ?_)
  refine lv_aload_n hx hb dX7_oneByOne_4 rfl (lv_at hl 0 rfl) ?_
  refine lv_iload_n hx hb dX7_oneByOne_5 rfl (lv_at hl 1 rfl) ?_
  refine lv_iload_n hx hb dX7_oneByOne_6 rfl (lv_at hl 2 rfl) ?_
  obtain ⟨r7, hr7, hM⟩ := h_b hM
  refine a_callV (σ' := aG r7.2) (v := (some (.int r7.1))) (As := fun ad => [.int x1, .int x2]) (rest := [.int r1.1]) (o := 109) C hw (c_X7_below l hr7) k_X7_below wM_X7_229 ⟨⟨rfl, rfl⟩, ⟨Nat.le_of_ble_eq_true rfl, Nat.le_of_ble_eq_true rfl⟩⟩ rfl (by decide) rfl rfl rfl hl rfl (Nat.le_of_ble_eq_true rfl) dX7_oneByOne_7 ⟨Nat.zero_le _, Nat.zero_le _⟩ (fun H locs hw => ?_)
  refine lv_isub hx hb dX7_oneByOne_10 ?_
  refine lv_i2l hx hb dX7_oneByOne_11 rfl ?_
  refine lv_lstore_n (lv' := [(3, .long ((r1.1 - r7.1)).toInt64), (0, .ref (ad 109)), (1, .int x1), (2, .int x2)]) hx hb dX7_oneByOne_12 rfl hl (by decide) rfl (fun ls hl => ?_)
  refine lv_iconst (v := (0 : Int32)) hx hb dX7_oneByOne_13 (by decide) ?_
  refine lv_istore (lv' := [(5, .int (0 : Int32)), (3, .long ((r1.1 - r7.1)).toInt64), (0, .ref (ad 109)), (1, .int x1), (2, .int x2)]) hx hb dX7_oneByOne_14 hl (by decide) rfl (fun ls hl => ?_)
  exact tl_X7_oneByOne_16 l C aF (x1) (x2) (((r1.1 - r7.1)).toInt64) ((0 : Int32)) hM hw (lv_sub hl [2, 3, 4, 1, 0] rfl)
def rm_X7_atOnce : Room := { frames := 2, cells := 0, slots := 0, locals := 43 }
set_option maxHeartbeats 4000000 in
set_option maxRecDepth 100000 in
theorem tl_X7_atOnce_45 (l : Launch) {p : Program} {e : Env} {s : State} {m : MethodId} {args : Array Value} {below : List Frame} {meth : Method} {c : Code} {D : va_G} {dA : Nat → ClassId} {ad adV : Nat → Nat} {A : Nat → Prop} (C : aX p m c cX7_atOnce 9 s args aTs RX7 meth (some .long)) {res : Int64 × iS} {k : Int32 → Int32 → Int64 → Int32 → Int64 → Int32 → iS → Option (Int64 × iS)} (hk : ∀ (z1 : Int32) (z2 : Int32) (z3 : Int64) (z5 : Int32) (z6 : Int64) (z8 : Int32) {ι : iS}, k z1 z2 z3 z5 z6 z8 ι = some res → ∀ {H : Heap} {locs : List Loc} {ls : Array Slot}, aW D dA ad adV (aG ι) A s H locs → lv_has ls 9 [(0, .ref (ad 109)), (1, .int z1), (2, .int z2), (3, .long z3), (5, .int z5), (6, .long z6), (8, .int z8)] → W p l e rm_X7_atOnce s m args below meth c H locs 0 0 (MQ below (aQ D dA ad (aG res.2) A (some (.long res.1))) args s 0 0 A) (F0 m 106 ls [])) : ∀ (n : Nat) (y1 : Int32) (y2 : Int32) (y3 : Int64) (y5 : Int32) (y6 : Int64) (y8 : Int32) {ι : iS}, l_X7_atOnce_45 n y1 y2 y3 y5 y6 y8 ι k = some res → ∀ {H : Heap} {locs : List Loc} {ls : Array Slot}, aW D dA ad adV (aG ι) A s H locs → lv_has ls 9 [(0, .ref (ad 109)), (1, .int y1), (2, .int y2), (3, .long y3), (5, .int y5), (6, .long y6), (8, .int y8)] → W p l e rm_X7_atOnce s m args below meth c H locs 0 0 (MQ below (aQ D dA ad (aG res.2) A (some (.long res.1))) args s 0 0 A) (F0 m 45 ls []) := by
  have hx := C.1.1
  have hb := C.1.2.1
  have hml := C.1.2.2.1
  have hown := C.1.2.2.2.1
  have hts := C.1.2.2.2.2
  intro n
  induction n with
  | zero => intro y1 y2 y3 y5 y6 y8 ι hM; simp [l_X7_atOnce_45] at hM
  | succ n ih =>
    intro y1 y2 y3 y5 y6 y8 ι hM H locs ls hw hl
    rw [l_X7_atOnce_45] at hM
    refine lv_iload hx hb dX7_atOnce_45 (lv_at hl 6 rfl) ?_
    refine lv_aload_n hx hb dX7_atOnce_47 rfl (lv_at hl 0 rfl) ?_
    refine a_getp (q := 112) (σ := aG ι) (o := 109) (T := TX7) (N := 20) C wU_X7 hw rfl (by decide) rfl 9 (by decide) rfl wF_X7_20 (aG_P rfl rfl) dX7_atOnce_48 ?_
    refine lv_iconst (v := (3 : Int32)) hx hb dX7_atOnce_51 (by decide) ?_
    refine a_iald (σ := aG ι) (o := 112) C hw rfl (aIn_v (by decide)) (show (3 : Int32).toNatClampNeg = 3 by decide) dX7_atOnce_52 ?_
    refine lv_icmp_ge (tgt := 106) hx hb dX7_atOnce_53 (by decide) (fun hc => ?_) (fun hc => ?_)
    · replace hM := h_t hc hM
      exact hk (y1) (y2) (y3) (y5) (y6) (y8) hM hw (lv_sub hl [0, 1, 2, 3, 4, 5, 6] rfl)
    · replace hM := h_f hc hM
      refine lv_lload hx hb dX7_atOnce_56 (lv_at hl 5 rfl) ?_
      refine lv_iload hx hb dX7_atOnce_58 (lv_at hl 6 rfl) ?_
      refine lv_iload_n hx hb dX7_atOnce_60 rfl (lv_at hl 1 rfl) ?_
      refine lv_icmp_ge (tgt := 76) hx hb dX7_atOnce_61 (by decide) (fun hc => ?_) (fun hc => ?_)
      · replace hM := h_t hc hM
        refine lv_iload hx hb dX7_atOnce_76 (lv_at hl 6 rfl) ?_
        refine lv_iload_n hx hb dX7_atOnce_78 rfl (lv_at hl 1 rfl) ?_
        refine lv_icmp_le (tgt := 96) hx hb dX7_atOnce_79 (by decide) (fun hc => ?_) (fun hc => ?_)
        · replace hM := h_t hc hM
          refine lv_lconst (v := (1 : Int64)) hx hb dX7_atOnce_96 (by decide) ?_
          refine lv_lmul hx hb dX7_atOnce_97 ?_
          refine lv_lstore (lv' := [(6, .long (y6 * (1 : Int64))), (0, .ref (ad 109)), (1, .int y1), (2, .int y2), (3, .long y3), (5, .int y5), (8, .int y8)]) hx hb dX7_atOnce_98 hl (by decide) rfl (fun ls hl => ?_)
          refine lv_iinc (v := (y8 + 1)) (lv' := [(8, .int (y8 + 1)), (6, .long (y6 * (1 : Int64))), (0, .ref (ad 109)), (1, .int y1), (2, .int y2), (3, .long y3), (5, .int y5)]) hx hb dX7_atOnce_100 hl (k := 6) rfl rfl (by decide) rfl (fun ls hl => ?_)
          refine lv_goto (tgt := 45) hx hb dX7_atOnce_103 (by decide) ?_
          exact ih (y1) (y2) (y3) (y5) ((y6 * (1 : Int64))) ((y8 + 1)) hM hw (lv_sub hl [2, 3, 4, 5, 6, 1, 0] rfl)
        · replace hM := h_f hc hM
          refine lv_aload_n hx hb dX7_atOnce_82 rfl (lv_at hl 0 rfl) ?_
          refine lv_iload hx hb dX7_atOnce_83 (lv_at hl 6 rfl) ?_
          refine lv_iload hx hb dX7_atOnce_85 (lv_at hl 4 rfl) ?_
          refine lv_iconst (v := (1 : Int32)) hx hb dX7_atOnce_87 (by decide) ?_
          refine lv_iadd hx hb dX7_atOnce_88 ?_
          obtain ⟨r89, hr89, hM⟩ := h_b hM
          refine a_callV (σ' := aG r89.2) (v := (some (.int r89.1))) (As := fun ad => [.int y8, .int (y5 + (1 : Int32))]) (rest := [.long y6]) (o := 109) C hw (c_X7_below l hr89) k_X7_below wM_X7_229 ⟨⟨rfl, rfl⟩, ⟨Nat.le_of_ble_eq_true rfl, Nat.le_of_ble_eq_true rfl⟩⟩ rfl (by decide) rfl rfl rfl hl rfl (Nat.le_of_ble_eq_true rfl) dX7_atOnce_89 ⟨Nat.zero_le _, Nat.zero_le _⟩ (fun H locs hw => ?_)
          refine lv_i2l hx hb dX7_atOnce_92 rfl ?_
          refine lv_goto (tgt := 97) hx hb dX7_atOnce_93 (by decide) ?_
          refine lv_lmul hx hb dX7_atOnce_97 ?_
          refine lv_lstore (lv' := [(6, .long (y6 * (r89.1).toInt64)), (0, .ref (ad 109)), (1, .int y1), (2, .int y2), (3, .long y3), (5, .int y5), (8, .int y8)]) hx hb dX7_atOnce_98 hl (by decide) rfl (fun ls hl => ?_)
          refine lv_iinc (v := (y8 + 1)) (lv' := [(8, .int (y8 + 1)), (6, .long (y6 * (r89.1).toInt64)), (0, .ref (ad 109)), (1, .int y1), (2, .int y2), (3, .long y3), (5, .int y5)]) hx hb dX7_atOnce_100 hl (k := 6) rfl rfl (by decide) rfl (fun ls hl => ?_)
          refine lv_goto (tgt := 45) hx hb dX7_atOnce_103 (by decide) ?_
          exact ih (y1) (y2) (y3) (y5) ((y6 * (r89.1).toInt64)) ((y8 + 1)) hM hw (lv_sub hl [2, 3, 4, 5, 6, 1, 0] rfl)
      · replace hM := h_f hc hM
        refine lv_aload_n hx hb dX7_atOnce_64 rfl (lv_at hl 0 rfl) ?_
        refine lv_iload hx hb dX7_atOnce_65 (lv_at hl 6 rfl) ?_
        refine lv_iload hx hb dX7_atOnce_67 (lv_at hl 4 rfl) ?_
        obtain ⟨r69, hr69, hM⟩ := h_b hM
        refine a_callV (σ' := aG r69.2) (v := (some (.int r69.1))) (As := fun ad => [.int y8, .int y5]) (rest := [.long y6]) (o := 109) C hw (c_X7_below l hr69) k_X7_below wM_X7_229 ⟨⟨rfl, rfl⟩, ⟨Nat.le_of_ble_eq_true rfl, Nat.le_of_ble_eq_true rfl⟩⟩ rfl (by decide) rfl rfl rfl hl rfl (Nat.le_of_ble_eq_true rfl) dX7_atOnce_69 ⟨Nat.zero_le _, Nat.zero_le _⟩ (fun H locs hw => ?_)
        refine lv_i2l hx hb dX7_atOnce_72 rfl ?_
        refine lv_goto (tgt := 97) hx hb dX7_atOnce_73 (by decide) ?_
        refine lv_lmul hx hb dX7_atOnce_97 ?_
        refine lv_lstore (lv' := [(6, .long (y6 * (r69.1).toInt64)), (0, .ref (ad 109)), (1, .int y1), (2, .int y2), (3, .long y3), (5, .int y5), (8, .int y8)]) hx hb dX7_atOnce_98 hl (by decide) rfl (fun ls hl => ?_)
        refine lv_iinc (v := (y8 + 1)) (lv' := [(8, .int (y8 + 1)), (6, .long (y6 * (r69.1).toInt64)), (0, .ref (ad 109)), (1, .int y1), (2, .int y2), (3, .long y3), (5, .int y5)]) hx hb dX7_atOnce_100 hl (k := 6) rfl rfl (by decide) rfl (fun ls hl => ?_)
        refine lv_goto (tgt := 45) hx hb dX7_atOnce_103 (by decide) ?_
        exact ih (y1) (y2) (y3) (y5) ((y6 * (r69.1).toInt64)) ((y8 + 1)) hM hw (lv_sub hl [2, 3, 4, 5, 6, 1, 0] rfl)
set_option maxHeartbeats 4000000 in
set_option maxRecDepth 100000 in
theorem tl_X7_atOnce_21 (l : Launch) {p : Program} {e : Env} {s : State} {m : MethodId} {args : Array Value} {below : List Frame} {meth : Method} {c : Code} {D : va_G} {dA : Nat → ClassId} {ad adV : Nat → Nat} {A : Nat → Prop} (C : aX p m c cX7_atOnce 9 s args aTs RX7 meth (some .long)) {res : Int64 × iS} : ∀ (n : Nat) (y1 : Int32) (y2 : Int32) (y3 : Int64) (y5 : Int32) {ι : iS}, l_X7_atOnce_21 n y1 y2 y3 y5 ι = some res → ∀ {H : Heap} {locs : List Loc} {ls : Array Slot}, aW D dA ad adV (aG ι) A s H locs → lv_has ls 9 [(0, .ref (ad 109)), (1, .int y1), (2, .int y2), (3, .long y3), (5, .int y5)] → W p l e rm_X7_atOnce s m args below meth c H locs 0 0 (MQ below (aQ D dA ad (aG res.2) A (some (.long res.1))) args s 0 0 A) (F0 m 21 ls []) := by
  have hx := C.1.1
  have hb := C.1.2.1
  have hml := C.1.2.2.1
  have hown := C.1.2.2.2.1
  have hts := C.1.2.2.2.2
  intro n
  induction n with
  | zero => intro y1 y2 y3 y5 ι hM; simp [l_X7_atOnce_21] at hM
  | succ n ih =>
    intro y1 y2 y3 y5 ι hM H locs ls hw hl
    rw [l_X7_atOnce_21] at hM
    refine lv_iload hx hb dX7_atOnce_21 (lv_at hl 4 rfl) ?_
    refine lv_aload_n hx hb dX7_atOnce_23 rfl (lv_at hl 0 rfl) ?_
    refine a_getp (q := 124) (σ := aG ι) (o := 109) (T := TX7) (N := 20) C wU_X7 hw rfl (by decide) rfl 17 (by decide) rfl wF_X7_35 (aG_P rfl rfl) dX7_atOnce_24 ?_
    refine lv_iload_n hx hb dX7_atOnce_27 rfl (lv_at hl 1 rfl) ?_
    obtain ⟨hi, hM⟩ := h_i hM
    refine a_iald (σ := aG ι) (o := 124) C hw rfl hi rfl dX7_atOnce_28 ?_
    refine lv_aload_n hx hb dX7_atOnce_29 rfl (lv_at hl 0 rfl) ?_
    refine a_getp (q := 112) (σ := aG ι) (o := 109) (T := TX7) (N := 20) C wU_X7 hw rfl (by decide) rfl 9 (by decide) rfl wF_X7_20 (aG_P rfl rfl) dX7_atOnce_30 ?_
    refine lv_iconst (v := (4 : Int32)) hx hb dX7_atOnce_33 (by decide) ?_
    refine a_iald (σ := aG ι) (o := 112) C hw rfl (aIn_v (by decide)) (show (4 : Int32).toNatClampNeg = 4 by decide) dX7_atOnce_34 ?_
    refine lv_iadd hx hb dX7_atOnce_35 ?_
    refine lv_icmp_gt (tgt := 117) hx hb dX7_atOnce_36 (by decide) (fun hc => ?_) (fun hc => ?_)
    · replace hM := h_t hc hM
      refine lv_lload_n hx hb dX7_atOnce_117 rfl (lv_at hl 3 rfl) ?_
      cases h_e hM
      exact a_lret C hw dX7_atOnce_118
    · replace hM := h_f hc hM
      refine lv_lconst (v := (1 : Int64)) hx hb dX7_atOnce_39 (by decide) ?_
      refine lv_lstore (lv' := [(6, .long (1 : Int64)), (0, .ref (ad 109)), (1, .int y1), (2, .int y2), (3, .long y3), (5, .int y5)]) hx hb dX7_atOnce_40 hl (by decide) rfl (fun ls hl => ?_)
      refine lv_iconst (v := (0 : Int32)) hx hb dX7_atOnce_42 (by decide) ?_
      refine lv_istore (lv' := [(8, .int (0 : Int32)), (6, .long (1 : Int64)), (0, .ref (ad 109)), (1, .int y1), (2, .int y2), (3, .long y3), (5, .int y5)]) hx hb dX7_atOnce_43 hl (by decide) rfl (fun ls hl => ?_)
      refine tl_X7_atOnce_45 l C (k := (fun z45_1 z45_2 z45_3 z45_5 z45_6 z45_8 ι45 => l_X7_atOnce_21 n z45_1 z45_2 (z45_3 + z45_6) (z45_5 + 1) ι45)) ?_ aF (y1) (y2) (y3) (y5) ((1 : Int64)) ((0 : Int32)) hM hw (lv_sub hl [2, 3, 4, 5, 6, 1, 0] rfl)
      intro z45_1 z45_2 z45_3 z45_5 z45_6 z45_8 ι45 hM H locs ls hw hl
      replace hM : (l_X7_atOnce_21 n z45_1 z45_2 (z45_3 + z45_6) (z45_5 + 1) ι45) = some res := hM
      refine lv_lload_n hx hb dX7_atOnce_106 rfl (lv_at hl 3 rfl) ?_
      refine lv_lload hx hb dX7_atOnce_107 (lv_at hl 5 rfl) ?_
      refine lv_ladd hx hb dX7_atOnce_109 ?_
      refine lv_lstore_n (lv' := [(3, .long (z45_3 + z45_6)), (0, .ref (ad 109)), (1, .int z45_1), (2, .int z45_2), (5, .int z45_5), (6, .long z45_6), (8, .int z45_8)]) hx hb dX7_atOnce_110 rfl hl (by decide) rfl (fun ls hl => ?_)
      refine lv_iinc (v := (z45_5 + 1)) (lv' := [(5, .int (z45_5 + 1)), (3, .long (z45_3 + z45_6)), (0, .ref (ad 109)), (1, .int z45_1), (2, .int z45_2), (6, .long z45_6), (8, .int z45_8)]) hx hb dX7_atOnce_111 hl (k := 4) rfl rfl (by decide) rfl (fun ls hl => ?_)
      refine lv_goto (tgt := 21) hx hb dX7_atOnce_114 (by decide) ?_
      exact ih (z45_1) (z45_2) ((z45_3 + z45_6)) ((z45_5 + 1)) hM hw (lv_sub hl [2, 3, 4, 1, 0] rfl)
theorem k_X7_atOnce : aCal RX7 yX7_atOnce cX7_atOnce 9 (some .long) 2 := ⟨wI_yX7_atOnce, wE_yX7_atOnce, wZ_X7, wC_yX7_atOnce, by decide +kernel⟩
set_option maxHeartbeats 4000000 in
set_option maxRecDepth 100000 in
theorem c_X7_atOnce (l : Launch) {x1 : Int32} {x2 : Int32} {ι : iS} {res : Int64 × iS} (hM : m_X7_atOnce x1 x2 ι = some res) : aM l yX7_atOnce cX7_atOnce 9 (some .long) rm_X7_atOnce (fun ad => [.ref (ad 109), .int x1, .int x2]) (aG ι) (some (.long res.1)) (aG res.2) := by
  refine aM.of (by decide) (fun _ => Nat.le_of_ble_eq_true rfl) ?_
  intro p e s m args below meth c D dA ad adV A ls C hw hl
  have C : aX p m c cX7_atOnce 9 s args aTs RX7 meth (some .long) := C
  have hx := C.1.1
  have hb := C.1.2.1
  have hml := C.1.2.2.1
  have hown := C.1.2.2.2.1
  have hts := C.1.2.2.2.2
  have hl : lv_has ls 9 [(0, .ref (ad 109)), (1, .int x1), (2, .int x2)] := hl
  unfold m_X7_atOnce at hM
  refine lv_lconst (v := (0 : Int64)) hx hb dX7_atOnce_0 (by decide) ?_
  refine lv_lstore_n (lv' := [(3, .long (0 : Int64)), (0, .ref (ad 109)), (1, .int x1), (2, .int x2)]) hx hb dX7_atOnce_1 rfl hl (by decide) rfl (fun ls hl => ?_)
  refine lv_iload_n hx hb dX7_atOnce_2 rfl (lv_at hl 3 rfl) ?_
  refine lv_aload_n hx hb dX7_atOnce_3 rfl (lv_at hl 1 rfl) ?_
  refine a_getp (q := 124) (σ := aG ι) (o := 109) (T := TX7) (N := 20) C wU_X7 hw rfl (by decide) rfl 17 (by decide) rfl wF_X7_35 (aG_P rfl rfl) dX7_atOnce_4 ?_
  refine lv_iload_n hx hb dX7_atOnce_7 rfl (lv_at hl 2 rfl) ?_
  obtain ⟨hi, hM⟩ := h_i hM
  refine a_iald (σ := aG ι) (o := 124) C hw rfl hi rfl dX7_atOnce_8 ?_
  refine lv_aload_n hx hb dX7_atOnce_9 rfl (lv_at hl 1 rfl) ?_
  refine a_getp (q := 112) (σ := aG ι) (o := 109) (T := TX7) (N := 20) C wU_X7 hw rfl (by decide) rfl 9 (by decide) rfl wF_X7_20 (aG_P rfl rfl) dX7_atOnce_10 ?_
  refine lv_iconst (v := (4 : Int32)) hx hb dX7_atOnce_13 (by decide) ?_
  refine a_iald (σ := aG ι) (o := 112) C hw rfl (aIn_v (by decide)) (show (4 : Int32).toNatClampNeg = 4 by decide) dX7_atOnce_14 ?_
  refine lv_isub hx hb dX7_atOnce_15 ?_
  obtain ⟨r16, hr16, hM⟩ := h_b hM
  refine a_callS  (σ' := aG r16.2) (v := (some (.int r16.1))) (as := fun ad => [.int x2, .int ((gI ι 124 x1.toNatClampNeg) - (gI ι 112 4))]) (rest := []) C hw (c_X7_more l hr16) k_X7_more wM_X7_226 ⟨⟨rfl, rfl⟩, ⟨Nat.le_of_ble_eq_true rfl, Nat.le_of_ble_eq_true rfl⟩⟩ rfl hl rfl (Nat.le_of_ble_eq_true rfl) dX7_atOnce_16 ⟨Nat.zero_le _, Nat.zero_le _⟩ (fun H locs hw => ?_)
  refine lv_istore (lv' := [(5, .int r16.1), (3, .long (0 : Int64)), (0, .ref (ad 109)), (1, .int x1), (2, .int x2)]) hx hb dX7_atOnce_19 hl (by decide) rfl (fun ls hl => ?_)
  exact tl_X7_atOnce_21 l C aF (x1) (x2) ((0 : Int64)) (r16.1) hM hw (lv_sub hl [2, 3, 4, 1, 0] rfl)
def rm_X7_picked : Room := { frames := 3, cells := 0, slots := 0, locals := 71 }
theorem k_X7_picked : aCal RX7 yX7_picked cX7_picked 4 (some .long) 3 := ⟨wI_yX7_picked, wE_yX7_picked, wZ_X7, wC_yX7_picked, by decide +kernel⟩
set_option maxHeartbeats 4000000 in
set_option maxRecDepth 100000 in
theorem c_X7_picked (l : Launch) {x1 : Int32} {x2 : Int32} {x3 : Int32} {ι : iS} {res : Int64 × iS} (hM : m_X7_picked x1 x2 x3 ι = some res) : aM l yX7_picked cX7_picked 4 (some .long) rm_X7_picked (fun ad => [.ref (ad 109), .int x1, .int x2, .int x3]) (aG ι) (some (.long res.1)) (aG res.2) := by
  refine aM.of (by decide) (fun _ => Nat.le_of_ble_eq_true rfl) ?_
  intro p e s m args below meth c D dA ad adV A ls C hw hl
  have C : aX p m c cX7_picked 4 s args aTs RX7 meth (some .long) := C
  have hx := C.1.1
  have hb := C.1.2.1
  have hml := C.1.2.2.1
  have hown := C.1.2.2.2.1
  have hts := C.1.2.2.2.2
  have hl : lv_has ls 4 [(0, .ref (ad 109)), (1, .int x1), (2, .int x2), (3, .int x3)] := hl
  unfold m_X7_picked at hM
  refine lv_iload_n hx hb dX7_picked_0 rfl (lv_at hl 1 rfl) ?_
  refine lv_if_ne (tgt := 13) hx hb dX7_picked_1 (by decide) (fun hc => ?_) (fun hc => ?_)
  · replace hM := h_f hc hM
    refine lv_aload_n hx hb dX7_picked_13 rfl (lv_at hl 0 rfl) ?_
    refine lv_iload_n hx hb dX7_picked_14 rfl (lv_at hl 2 rfl) ?_
    refine lv_iload_n hx hb dX7_picked_15 rfl (lv_at hl 3 rfl) ?_
    obtain ⟨r16, hr16, hM⟩ := h_b hM
    refine a_callV (σ' := aG r16.2) (v := (some (.long r16.1))) (As := fun ad => [.int x2, .int x3]) (rest := []) (o := 109) C hw (c_X7_atOnce l hr16) k_X7_atOnce wM_X7_236 ⟨⟨rfl, rfl⟩, ⟨Nat.le_of_ble_eq_true rfl, Nat.le_of_ble_eq_true rfl⟩⟩ rfl (by decide) rfl rfl rfl hl rfl (Nat.le_of_ble_eq_true rfl) dX7_picked_16 ⟨Nat.zero_le _, Nat.zero_le _⟩ (fun H locs hw => ?_)
    cases h_e hM
    exact a_lret C hw dX7_picked_19
  · replace hM := h_t hc hM
    refine lv_aload_n hx hb dX7_picked_4 rfl (lv_at hl 0 rfl) ?_
    refine lv_iload_n hx hb dX7_picked_5 rfl (lv_at hl 2 rfl) ?_
    refine lv_iload_n hx hb dX7_picked_6 rfl (lv_at hl 3 rfl) ?_
    obtain ⟨r7, hr7, hM⟩ := h_b hM
    refine a_callV (σ' := aG r7.2) (v := (some (.long r7.1))) (As := fun ad => [.int x2, .int x3]) (rest := []) (o := 109) C hw (c_X7_oneByOne l hr7) k_X7_oneByOne wM_X7_232 ⟨⟨rfl, rfl⟩, ⟨Nat.le_of_ble_eq_true rfl, Nat.le_of_ble_eq_true rfl⟩⟩ rfl (by decide) rfl rfl rfl hl rfl (Nat.le_of_ble_eq_true rfl) dX7_picked_7 ⟨Nat.zero_le _, Nat.zero_le _⟩ (fun H locs hw => ?_)
    refine lv_goto (tgt := 19) hx hb dX7_picked_10 (by decide) ?_
    cases h_e hM
    exact a_lret C hw dX7_picked_19
def rm_X7_terms : Room := { frames := 0, cells := 0, slots := 0, locals := 0 }
set_option maxHeartbeats 4000000 in
set_option maxRecDepth 100000 in
theorem tl_X7_terms_29 (l : Launch) {p : Program} {e : Env} {s : State} {m : MethodId} {args : Array Value} {below : List Frame} {meth : Method} {c : Code} {D : va_G} {dA : Nat → ClassId} {ad adV : Nat → Nat} {A : Nat → Prop} (C : aX p m c cX7_terms 11 s args aTs RX7 meth (some .long)) {res : Int64 × iS} : ∀ (n : Nat) (y0 : Int64) (y2 : Int64) (y4 : Int32) (y5 : Int64) (y7 : Int64) {ι : iS}, l_X7_terms_29 n y0 y2 y4 y5 y7 ι = some res → ∀ {H : Heap} {locs : List Loc} {ls : Array Slot}, aW D dA ad adV (aG ι) A s H locs → lv_has ls 11 [(0, .long y0), (2, .long y2), (4, .int y4), (5, .long y5), (7, .long y7)] → W p l e rm_X7_terms s m args below meth c H locs 0 0 (MQ below (aQ D dA ad (aG res.2) A (some (.long res.1))) args s 0 0 A) (F0 m 29 ls []) := by
  have hx := C.1.1
  have hb := C.1.2.1
  have hml := C.1.2.2.1
  have hown := C.1.2.2.2.1
  have hts := C.1.2.2.2.2
  intro n
  induction n with
  | zero => intro y0 y2 y4 y5 y7 ι hM; simp [l_X7_terms_29] at hM
  | succ n ih =>
    intro y0 y2 y4 y5 y7 ι hM H locs ls hw hl
    rw [l_X7_terms_29] at hM
    refine lv_lload hx hb dX7_terms_29 (lv_at hl 4 rfl) ?_
    refine lv_lconst (v := (0 : Int64)) hx hb dX7_terms_31 (by decide) ?_
    refine W.lcmp hx hb dX7_terms_32 ?_
    refine lv_if_eq (tgt := 54) hx hb dX7_terms_33 (by decide) (fun hc => ?_) (fun hc => ?_)
    · replace hM := h_t hc hM
      refine lv_iload hx hb dX7_terms_54 (lv_at hl 2 rfl) ?_
      refine lv_if_ne (tgt := 63) hx hb dX7_terms_56 (by decide) (fun hc => ?_) (fun hc => ?_)
      · replace hM := h_f hc hM
        refine lv_lload_n hx hb dX7_terms_63 rfl (lv_at hl 1 rfl) ?_
        refine lv_lload hx hb dX7_terms_64 (lv_at hl 3 rfl) ?_
        obtain ⟨hd, hM⟩ := h_g hM
        refine lv_ldiv hx hb dX7_terms_66 hd ?_
        cases h_e hM
        exact a_lret C hw dX7_terms_67
      · replace hM := h_t hc hM
        refine lv_lload_n hx hb dX7_terms_59 rfl (lv_at hl 0 rfl) ?_
        refine lv_goto (tgt := 64) hx hb dX7_terms_60 (by decide) ?_
        refine lv_lload hx hb dX7_terms_64 (lv_at hl 3 rfl) ?_
        obtain ⟨hd, hM⟩ := h_g hM
        refine lv_ldiv hx hb dX7_terms_66 hd ?_
        cases h_e hM
        exact a_lret C hw dX7_terms_67
    · replace hM := h_f hc hM
      refine lv_lload hx hb dX7_terms_36 (lv_at hl 3 rfl) ?_
      refine lv_lload hx hb dX7_terms_38 (lv_at hl 4 rfl) ?_
      obtain ⟨hd, hM⟩ := h_g hM
      refine lv_lrem hx hb dX7_terms_40 hd ?_
      refine lv_lstore (lv' := [(9, .long (y5 - y5 / y7 * y7)), (0, .long y0), (2, .long y2), (4, .int y4), (5, .long y5), (7, .long y7)]) hx hb dX7_terms_41 hl (by decide) rfl (fun ls hl => ?_)
      refine lv_lload hx hb dX7_terms_43 (lv_at hl 5 rfl) ?_
      refine lv_lstore (lv' := [(5, .long y7), (9, .long (y5 - y5 / y7 * y7)), (0, .long y0), (2, .long y2), (4, .int y4), (7, .long y7)]) hx hb dX7_terms_45 hl (by decide) rfl (fun ls hl => ?_)
      refine lv_lload hx hb dX7_terms_47 (lv_at hl 1 rfl) ?_
      refine lv_lstore (lv' := [(7, .long (y5 - y5 / y7 * y7)), (5, .long y7), (9, .long (y5 - y5 / y7 * y7)), (0, .long y0), (2, .long y2), (4, .int y4)]) hx hb dX7_terms_49 hl (by decide) rfl (fun ls hl => ?_)
      refine lv_goto (tgt := 29) hx hb dX7_terms_51 (by decide) ?_
      exact ih (y0) (y2) (y4) (y7) ((y5 - y5 / y7 * y7)) hM hw (lv_sub hl [3, 4, 5, 1, 0] rfl)
theorem k_X7_terms : aCalS yX7_terms cX7_terms 11 (some .long) 3 := ⟨wS_yX7_terms, wZ_X7, wC_yX7_terms, by decide +kernel⟩
set_option maxHeartbeats 4000000 in
set_option maxRecDepth 100000 in
theorem c_X7_terms (l : Launch) {x1 : Int64} {x2 : Int64} {x3 : Int32} {ι : iS} {res : Int64 × iS} (hM : m_X7_terms x1 x2 x3 ι = some res) : aM l yX7_terms cX7_terms 11 (some .long) rm_X7_terms (fun ad => [.long x1, .long x2, .int x3]) (aG ι) (some (.long res.1)) (aG res.2) := by
  refine aM.of (by decide) (fun _ => Nat.le_of_ble_eq_true rfl) ?_
  intro p e s m args below meth c D dA ad adV A ls C hw hl
  have C : aX p m c cX7_terms 11 s args aTs RX7 meth (some .long) := C
  have hx := C.1.1
  have hb := C.1.2.1
  have hml := C.1.2.2.1
  have hown := C.1.2.2.2.1
  have hts := C.1.2.2.2.2
  have hl : lv_has ls 11 [(0, .long x1), (2, .long x2), (4, .int x3)] := hl
  unfold m_X7_terms at hM
  refine lv_lload_n hx hb dX7_terms_0 rfl (lv_at hl 1 rfl) ?_
  refine lv_lconst (v := (0 : Int64)) hx hb dX7_terms_1 (by decide) ?_
  refine W.lcmp hx hb dX7_terms_2 ?_
  refine lv_if_eq (tgt := 12) hx hb dX7_terms_3 (by decide) (fun hc => ?_) (fun hc => ?_)
  · replace hM := h_t hc hM
    refine lv_iload hx hb dX7_terms_12 (lv_at hl 2 rfl) ?_
    refine lv_if_ne (tgt := 21) hx hb dX7_terms_14 (by decide) (fun hc => ?_) (fun hc => ?_)
    · replace hM := h_f hc hM
      refine lv_lconst (v := (1 : Int64)) hx hb dX7_terms_21 (by decide) ?_
      cases h_e hM
      exact a_lret C hw dX7_terms_22
    · replace hM := h_t hc hM
      refine lv_lconst (v := (0 : Int64)) hx hb dX7_terms_17 (by decide) ?_
      refine lv_goto (tgt := 22) hx hb dX7_terms_18 (by decide) ?_
      cases h_e hM
      exact a_lret C hw dX7_terms_22
  · replace hM := h_f hc hM
    refine lv_lload_n hx hb dX7_terms_6 rfl (lv_at hl 0 rfl) ?_
    refine lv_lconst (v := (0 : Int64)) hx hb dX7_terms_7 (by decide) ?_
    refine W.lcmp hx hb dX7_terms_8 ?_
    refine lv_if_ne (tgt := 23) hx hb dX7_terms_9 (by decide) (fun hc => ?_) (fun hc => ?_)
    · replace hM := h_f hc hM
      refine lv_lload_n hx hb dX7_terms_23 rfl (lv_at hl 0 rfl) ?_
      refine lv_lstore (lv' := [(5, .long x1), (0, .long x1), (2, .long x2), (4, .int x3)]) hx hb dX7_terms_24 hl (by decide) rfl (fun ls hl => ?_)
      refine lv_lload_n hx hb dX7_terms_26 rfl (lv_at hl 2 rfl) ?_
      refine lv_lstore (lv' := [(7, .long x2), (5, .long x1), (0, .long x1), (2, .long x2), (4, .int x3)]) hx hb dX7_terms_27 hl (by decide) rfl (fun ls hl => ?_)
      exact tl_X7_terms_29 l C aF (x1) (x2) (x3) (x1) (x2) hM hw (lv_sub hl [2, 3, 4, 1, 0] rfl)
    · replace hM := h_t hc hM
      refine lv_iload hx hb dX7_terms_12 (lv_at hl 2 rfl) ?_
      refine lv_if_ne (tgt := 21) hx hb dX7_terms_14 (by decide) (fun hc => ?_) (fun hc => ?_)
      · replace hM := h_f hc hM
        refine lv_lconst (v := (1 : Int64)) hx hb dX7_terms_21 (by decide) ?_
        cases h_e hM
        exact a_lret C hw dX7_terms_22
      · replace hM := h_t hc hM
        refine lv_lconst (v := (0 : Int64)) hx hb dX7_terms_17 (by decide) ?_
        refine lv_goto (tgt := 22) hx hb dX7_terms_18 (by decide) ?_
        cases h_e hM
        exact a_lret C hw dX7_terms_22
def rm_X7_isHalf : Room := { frames := 0, cells := 0, slots := 0, locals := 0 }
theorem k_X7_isHalf : aCalS yX7_isHalf cX7_isHalf 1 (some .boolean) 1 := ⟨wS_yX7_isHalf, wZ_X7, wC_yX7_isHalf, by decide +kernel⟩
set_option maxHeartbeats 4000000 in
set_option maxRecDepth 100000 in
theorem c_X7_isHalf (l : Launch) {x1 : Int32} {ι : iS} {res : Int32 × iS} (hM : m_X7_isHalf x1 ι = some res) : aM l yX7_isHalf cX7_isHalf 1 (some .boolean) rm_X7_isHalf (fun ad => [.int x1]) (aG ι) (some (.int res.1)) (aG res.2) := by
  refine aM.of (by decide) (fun _ => Nat.le_of_ble_eq_true rfl) ?_
  intro p e s m args below meth c D dA ad adV A ls C hw hl
  have C : aX p m c cX7_isHalf 1 s args aTs RX7 meth (some .boolean) := C
  have hx := C.1.1
  have hb := C.1.2.1
  have hml := C.1.2.2.1
  have hown := C.1.2.2.2.1
  have hts := C.1.2.2.2.2
  have hl : lv_has ls 1 [(0, .int x1)] := hl
  unfold m_X7_isHalf at hM
  refine lv_iload_n hx hb dX7_isHalf_0 rfl (lv_at hl 0 rfl) ?_
  refine lv_if_eq (tgt := 9) hx hb dX7_isHalf_1 (by decide) (fun hc => ?_) (fun hc => ?_)
  · replace hM := h_t hc hM
    refine lv_iconst (v := (1 : Int32)) hx hb dX7_isHalf_9 (by decide) ?_
    refine lv_goto (tgt := 14) hx hb dX7_isHalf_10 (by decide) ?_
    cases h_e hM
    exact a_zret C (zn (v := 1) (Or.inr rfl)) hw dX7_isHalf_14
  · replace hM := h_f hc hM
    refine lv_iload_n hx hb dX7_isHalf_4 rfl (lv_at hl 0 rfl) ?_
    refine lv_iconst (v := (1 : Int32)) hx hb dX7_isHalf_5 (by decide) ?_
    refine lv_icmp_ne (tgt := 13) hx hb dX7_isHalf_6 (by decide) (fun hc => ?_) (fun hc => ?_)
    · replace hM := h_f hc hM
      refine lv_iconst (v := (0 : Int32)) hx hb dX7_isHalf_13 (by decide) ?_
      cases h_e hM
      exact a_zret C (zn (v := 0) (Or.inl rfl)) hw dX7_isHalf_14
    · replace hM := h_t hc hM
      refine lv_iconst (v := (1 : Int32)) hx hb dX7_isHalf_9 (by decide) ?_
      refine lv_goto (tgt := 14) hx hb dX7_isHalf_10 (by decide) ?_
      cases h_e hM
      exact a_zret C (zn (v := 1) (Or.inr rfl)) hw dX7_isHalf_14
def rm_X7_chance : Room := { frames := 5, cells := 0, slots := 0, locals := 123 }
set_option maxHeartbeats 4000000 in
set_option maxRecDepth 100000 in
theorem tl_X7_chance_76 (l : Launch) {p : Program} {e : Env} {s : State} {m : MethodId} {args : Array Value} {below : List Frame} {meth : Method} {c : Code} {D : va_G} {dA : Nat → ClassId} {ad adV : Nat → Nat} {A : Nat → Prop} (C : aX p m c cX7_chance 9 s args aTs RX7 meth (some .long)) {res : Int64 × iS} : ∀ (n : Nat) (y1 : Int32) (y2 : Int32) (y3 : Int32) (y4 : Int32) (y5 : Int32) (y6 : Int64) (y8 : Int32) {ι : iS}, l_X7_chance_76 n y1 y2 y3 y4 y5 y6 y8 ι = some res → ∀ {H : Heap} {locs : List Loc} {ls : Array Slot}, aW D dA ad adV (aG ι) A s H locs → lv_has ls 9 [(0, .ref (ad 109)), (1, .int y1), (2, .int y2), (3, .int y3), (4, .int y4), (5, .int y5), (6, .long y6), (8, .int y8)] → W p l e rm_X7_chance s m args below meth c H locs 0 0 (MQ below (aQ D dA ad (aG res.2) A (some (.long res.1))) args s 0 0 A) (F0 m 76 ls []) := by
  have hx := C.1.1
  have hb := C.1.2.1
  have hml := C.1.2.2.1
  have hown := C.1.2.2.2.1
  have hts := C.1.2.2.2.2
  intro n
  induction n with
  | zero => intro y1 y2 y3 y4 y5 y6 y8 ι hM; simp [l_X7_chance_76] at hM
  | succ n ih =>
    intro y1 y2 y3 y4 y5 y6 y8 ι hM H locs ls hw hl
    rw [l_X7_chance_76] at hM
    refine lv_iload hx hb dX7_chance_76 (lv_at hl 7 rfl) ?_
    refine lv_aload_n hx hb dX7_chance_78 rfl (lv_at hl 0 rfl) ?_
    refine a_getp (q := 112) (σ := aG ι) (o := 109) (T := TX7) (N := 20) C wU_X7 hw rfl (by decide) rfl 9 (by decide) rfl wF_X7_20 (aG_P rfl rfl) dX7_chance_79 ?_
    refine lv_iconst (v := (3 : Int32)) hx hb dX7_chance_82 (by decide) ?_
    refine a_iald (σ := aG ι) (o := 112) C hw rfl (aIn_v (by decide)) (show (3 : Int32).toNatClampNeg = 3 by decide) dX7_chance_83 ?_
    refine lv_icmp_ge (tgt := 130) hx hb dX7_chance_84 (by decide) (fun hc => ?_) (fun hc => ?_)
    · replace hM := h_t hc hM
      refine lv_iload_n hx hb dX7_chance_130 rfl (lv_at hl 2 rfl) ?_
      refine lv_iconst (v := (-1 : Int32)) hx hb dX7_chance_131 (by decide) ?_
      refine lv_icmp_ne (tgt := 145) hx hb dX7_chance_132 (by decide) (fun hc => ?_) (fun hc => ?_)
      · replace hM := h_f hc hM
        refine lv_lload hx hb dX7_chance_145 (lv_at hl 6 rfl) ?_
        refine lv_aload_n hx hb dX7_chance_147 rfl (lv_at hl 0 rfl) ?_
        obtain ⟨r148, hr148, hM⟩ := h_b hM
        refine a_callV (σ' := aG r148.2) (v := (some (.long r148.1))) (As := fun ad => []) (rest := [.long y6]) (o := 109) C hw (c_X7_allWays l hr148) k_X7_allWays wM_X7_250 ⟨⟨rfl, rfl⟩, ⟨Nat.le_of_ble_eq_true rfl, Nat.le_of_ble_eq_true rfl⟩⟩ rfl (by decide) rfl rfl rfl hl rfl (Nat.le_of_ble_eq_true rfl) dX7_chance_148 ⟨Nat.zero_le _, Nat.zero_le _⟩ (fun H locs hw => ?_)
        refine lv_iload hx hb dX7_chance_151 (lv_at hl 5 rfl) ?_
        obtain ⟨r153, hr153, hM⟩ := h_b hM
        refine a_callS  (σ' := aG r153.2) (v := (some (.long r153.1))) (as := fun ad => [.long y6, .long r148.1, .int y5]) (rest := []) C hw (c_X7_terms l hr153) k_X7_terms wM_X7_254 ⟨⟨rfl, rfl⟩, ⟨Nat.le_of_ble_eq_true rfl, Nat.le_of_ble_eq_true rfl⟩⟩ rfl hl rfl (Nat.le_of_ble_eq_true rfl) dX7_chance_153 ⟨Nat.zero_le _, Nat.zero_le _⟩ (fun H locs hw => ?_)
        cases h_e hM
        exact a_lret C hw dX7_chance_156
      · replace hM := h_t hc hM
        refine lv_aload_n hx hb dX7_chance_135 rfl (lv_at hl 0 rfl) ?_
        obtain ⟨r136, hr136, hM⟩ := h_b hM
        refine a_callV (σ' := aG r136.2) (v := (some (.long r136.1))) (As := fun ad => []) (rest := []) (o := 109) C hw (c_X7_allWays l hr136) k_X7_allWays wM_X7_250 ⟨⟨rfl, rfl⟩, ⟨Nat.le_of_ble_eq_true rfl, Nat.le_of_ble_eq_true rfl⟩⟩ rfl (by decide) rfl rfl rfl hl rfl (Nat.le_of_ble_eq_true rfl) dX7_chance_136 ⟨Nat.zero_le _, Nat.zero_le _⟩ (fun H locs hw => ?_)
        refine lv_lload hx hb dX7_chance_139 (lv_at hl 6 rfl) ?_
        refine lv_lsub hx hb dX7_chance_141 ?_
        refine lv_goto (tgt := 147) hx hb dX7_chance_142 (by decide) ?_
        refine lv_aload_n hx hb dX7_chance_147 rfl (lv_at hl 0 rfl) ?_
        obtain ⟨r148, hr148, hM⟩ := h_b hM
        refine a_callV (σ' := aG r148.2) (v := (some (.long r148.1))) (As := fun ad => []) (rest := [.long (r136.1 - y6)]) (o := 109) C hw (c_X7_allWays l hr148) k_X7_allWays wM_X7_250 ⟨⟨rfl, rfl⟩, ⟨Nat.le_of_ble_eq_true rfl, Nat.le_of_ble_eq_true rfl⟩⟩ rfl (by decide) rfl rfl rfl hl rfl (Nat.le_of_ble_eq_true rfl) dX7_chance_148 ⟨Nat.zero_le _, Nat.zero_le _⟩ (fun H locs hw => ?_)
        refine lv_iload hx hb dX7_chance_151 (lv_at hl 5 rfl) ?_
        obtain ⟨r153, hr153, hM⟩ := h_b hM
        refine a_callS  (σ' := aG r153.2) (v := (some (.long r153.1))) (as := fun ad => [.long (r136.1 - y6), .long r148.1, .int y5]) (rest := []) C hw (c_X7_terms l hr153) k_X7_terms wM_X7_254 ⟨⟨rfl, rfl⟩, ⟨Nat.le_of_ble_eq_true rfl, Nat.le_of_ble_eq_true rfl⟩⟩ rfl hl rfl (Nat.le_of_ble_eq_true rfl) dX7_chance_153 ⟨Nat.zero_le _, Nat.zero_le _⟩ (fun H locs hw => ?_)
        cases h_e hM
        exact a_lret C hw dX7_chance_156
    · replace hM := h_f hc hM
      refine lv_iload_n hx hb dX7_chance_87 rfl (lv_at hl 2 rfl) ?_
      refine lv_iconst (v := (-1 : Int32)) hx hb dX7_chance_88 (by decide) ?_
      refine lv_icmp_eq (tgt := 106) hx hb dX7_chance_89 (by decide) (fun hc => ?_) (fun hc => ?_)
      · replace hM := h_t hc hM
        refine lv_lload hx hb dX7_chance_106 (lv_at hl 6 rfl) ?_
        refine lv_aload_n hx hb dX7_chance_108 rfl (lv_at hl 0 rfl) ?_
        refine lv_iload_n hx hb dX7_chance_109 rfl (lv_at hl 1 rfl) ?_
        refine lv_iload hx hb dX7_chance_110 (lv_at hl 7 rfl) ?_
        refine lv_aload_n hx hb dX7_chance_112 rfl (lv_at hl 0 rfl) ?_
        refine a_getp (q := 112) (σ := aG ι) (o := 109) (T := TX7) (N := 20) C wU_X7 hw rfl (by decide) rfl 9 (by decide) rfl wF_X7_20 (aG_P rfl rfl) dX7_chance_113 ?_
        refine lv_iconst (v := (5 : Int32)) hx hb dX7_chance_116 (by decide) ?_
        refine a_iald (σ := aG ι) (o := 112) C hw rfl (aIn_v (by decide)) (show (5 : Int32).toNatClampNeg = 5 by decide) dX7_chance_117 ?_
        obtain ⟨r118, hr118, hM⟩ := h_b hM
        refine a_callV (σ' := aG r118.2) (v := (some (.long r118.1))) (As := fun ad => [.int y1, .int y8, .int (gI ι 112 5)]) (rest := [.long y6]) (o := 109) C hw (c_X7_picked l hr118) k_X7_picked wM_X7_246 ⟨⟨rfl, rfl⟩, ⟨Nat.le_of_ble_eq_true rfl, Nat.le_of_ble_eq_true rfl⟩⟩ rfl (by decide) rfl rfl rfl hl rfl (Nat.le_of_ble_eq_true rfl) dX7_chance_118 ⟨Nat.zero_le _, Nat.zero_le _⟩ (fun H locs hw => ?_)
        refine lv_ladd hx hb dX7_chance_121 ?_
        refine lv_lstore (lv' := [(6, .long (y6 + r118.1)), (0, .ref (ad 109)), (1, .int y1), (2, .int y2), (3, .int y3), (4, .int y4), (5, .int y5), (8, .int y8)]) hx hb dX7_chance_122 hl (by decide) rfl (fun ls hl => ?_)
        refine lv_iinc (v := (y8 + 1)) (lv' := [(8, .int (y8 + 1)), (6, .long (y6 + r118.1)), (0, .ref (ad 109)), (1, .int y1), (2, .int y2), (3, .int y3), (4, .int y4), (5, .int y5)]) hx hb dX7_chance_124 hl (k := 7) rfl rfl (by decide) rfl (fun ls hl => ?_)
        refine lv_goto (tgt := 76) hx hb dX7_chance_127 (by decide) ?_
        exact ih (y1) (y2) (y3) (y4) (y5) ((y6 + r118.1)) ((y8 + 1)) hM hw (lv_sub hl [2, 3, 4, 5, 6, 7, 1, 0] rfl)
      · replace hM := h_f hc hM
        refine lv_aload_n hx hb dX7_chance_92 rfl (lv_at hl 0 rfl) ?_
        refine a_getp (q := 112) (σ := aG ι) (o := 109) (T := TX7) (N := 20) C wU_X7 hw rfl (by decide) rfl 9 (by decide) rfl wF_X7_20 (aG_P rfl rfl) dX7_chance_93 ?_
        refine lv_bipush (v := (99 : Int32)) hx hb dX7_chance_96 (by decide) ?_
        refine lv_iload hx hb dX7_chance_98 (lv_at hl 7 rfl) ?_
        refine lv_iadd hx hb dX7_chance_100 ?_
        obtain ⟨hi, hM⟩ := h_i hM
        refine a_iald (σ := aG ι) (o := 112) C hw rfl hi rfl dX7_chance_101 ?_
        refine lv_iload_n hx hb dX7_chance_102 rfl (lv_at hl 2 rfl) ?_
        refine lv_icmp_ne (tgt := 124) hx hb dX7_chance_103 (by decide) (fun hc => ?_) (fun hc => ?_)
        · replace hM := h_f hc hM
          refine lv_iinc (v := (y8 + 1)) (lv' := [(8, .int (y8 + 1)), (0, .ref (ad 109)), (1, .int y1), (2, .int y2), (3, .int y3), (4, .int y4), (5, .int y5), (6, .long y6)]) hx hb dX7_chance_124 hl (k := 7) rfl rfl (by decide) rfl (fun ls hl => ?_)
          refine lv_goto (tgt := 76) hx hb dX7_chance_127 (by decide) ?_
          exact ih (y1) (y2) (y3) (y4) (y5) (y6) ((y8 + 1)) hM hw (lv_sub hl [1, 2, 3, 4, 5, 6, 7, 0] rfl)
        · replace hM := h_t hc hM
          refine lv_lload hx hb dX7_chance_106 (lv_at hl 6 rfl) ?_
          refine lv_aload_n hx hb dX7_chance_108 rfl (lv_at hl 0 rfl) ?_
          refine lv_iload_n hx hb dX7_chance_109 rfl (lv_at hl 1 rfl) ?_
          refine lv_iload hx hb dX7_chance_110 (lv_at hl 7 rfl) ?_
          refine lv_aload_n hx hb dX7_chance_112 rfl (lv_at hl 0 rfl) ?_
          refine a_getp (q := 112) (σ := aG ι) (o := 109) (T := TX7) (N := 20) C wU_X7 hw rfl (by decide) rfl 9 (by decide) rfl wF_X7_20 (aG_P rfl rfl) dX7_chance_113 ?_
          refine lv_iconst (v := (5 : Int32)) hx hb dX7_chance_116 (by decide) ?_
          refine a_iald (σ := aG ι) (o := 112) C hw rfl (aIn_v (by decide)) (show (5 : Int32).toNatClampNeg = 5 by decide) dX7_chance_117 ?_
          obtain ⟨r118, hr118, hM⟩ := h_b hM
          refine a_callV (σ' := aG r118.2) (v := (some (.long r118.1))) (As := fun ad => [.int y1, .int y8, .int (gI ι 112 5)]) (rest := [.long y6]) (o := 109) C hw (c_X7_picked l hr118) k_X7_picked wM_X7_246 ⟨⟨rfl, rfl⟩, ⟨Nat.le_of_ble_eq_true rfl, Nat.le_of_ble_eq_true rfl⟩⟩ rfl (by decide) rfl rfl rfl hl rfl (Nat.le_of_ble_eq_true rfl) dX7_chance_118 ⟨Nat.zero_le _, Nat.zero_le _⟩ (fun H locs hw => ?_)
          refine lv_ladd hx hb dX7_chance_121 ?_
          refine lv_lstore (lv' := [(6, .long (y6 + r118.1)), (0, .ref (ad 109)), (1, .int y1), (2, .int y2), (3, .int y3), (4, .int y4), (5, .int y5), (8, .int y8)]) hx hb dX7_chance_122 hl (by decide) rfl (fun ls hl => ?_)
          refine lv_iinc (v := (y8 + 1)) (lv' := [(8, .int (y8 + 1)), (6, .long (y6 + r118.1)), (0, .ref (ad 109)), (1, .int y1), (2, .int y2), (3, .int y3), (4, .int y4), (5, .int y5)]) hx hb dX7_chance_124 hl (k := 7) rfl rfl (by decide) rfl (fun ls hl => ?_)
          refine lv_goto (tgt := 76) hx hb dX7_chance_127 (by decide) ?_
          exact ih (y1) (y2) (y3) (y4) (y5) ((y6 + r118.1)) ((y8 + 1)) hM hw (lv_sub hl [2, 3, 4, 5, 6, 7, 1, 0] rfl)
theorem k_X7_chance : aCal RX7 yX7_chance cX7_chance 9 (some .long) 5 := ⟨wI_yX7_chance, wE_yX7_chance, wZ_X7, wC_yX7_chance, by decide +kernel⟩
set_option maxHeartbeats 4000000 in
set_option maxRecDepth 100000 in
theorem c_X7_chance (l : Launch) {x1 : Int32} {x2 : Int32} {x3 : Int32} {x4 : Int32} {x5 : Int32} {ι : iS} {res : Int64 × iS} (hM : m_X7_chance x1 x2 x3 x4 x5 ι = some res) : aM l yX7_chance cX7_chance 9 (some .long) rm_X7_chance (fun ad => [.ref (ad 109), .int x1, .int x2, .int x3, .int x4, .int x5]) (aG ι) (some (.long res.1)) (aG res.2) := by
  refine aM.of (by decide) (fun _ => Nat.le_of_ble_eq_true rfl) ?_
  intro p e s m args below meth c D dA ad adV A ls C hw hl
  have C : aX p m c cX7_chance 9 s args aTs RX7 meth (some .long) := C
  have hx := C.1.1
  have hb := C.1.2.1
  have hml := C.1.2.2.1
  have hown := C.1.2.2.2.1
  have hts := C.1.2.2.2.2
  have hl : lv_has ls 9 [(0, .ref (ad 109)), (1, .int x1), (2, .int x2), (3, .int x3), (4, .int x4), (5, .int x5)] := hl
  unfold m_X7_chance at hM
  refine lv_aload_n hx hb dX7_chance_0 rfl (lv_at hl 0 rfl) ?_
  refine lv_iconst (v := (0 : Int32)) hx hb dX7_chance_1 (by decide) ?_
  refine a_puti (ty := .int) (σ := aG ι) (o := 109) (T := TX7) (N := 20) (ty0 := tyX7) C wU_X7 tyX7_ok nmX7 hw rfl (by decide) rfl 0 (by decide) rfl wF_X7_42 rfl (by decide +kernel) rfl rfl dX7_chance_2 (fun H locs hw => ?_)
  have hw : aW D dA ad adV (aG (pI ι 109 0 (0 : Int32))) A s H locs := hw
  refine lv_aload_n hx hb dX7_chance_5 rfl (lv_at hl 0 rfl) ?_
  refine lv_iload_n hx hb dX7_chance_6 rfl (lv_at hl 2 rfl) ?_
  refine lv_iconst (v := (-1 : Int32)) hx hb dX7_chance_7 (by decide) ?_
  refine lv_icmp_eq (tgt := 23) hx hb dX7_chance_8 (by decide) (fun hc => ?_) (fun hc => ?_)
  · replace hM := h_t hc hM
    refine lv_iconst (v := (0 : Int32)) hx hb dX7_chance_23 (by decide) ?_
    refine lv_iconst (v := (1 : Int32)) hx hb dX7_chance_24 (by decide) ?_
    refine lv_iconst (v := (0 : Int32)) hx hb dX7_chance_25 (by decide) ?_
    obtain ⟨r26, hr26, hM⟩ := h_b hM
    refine a_callV (σ' := aG r26.2) (v := (some (.int r26.1))) (As := fun ad => [.int (0 : Int32), .int (1 : Int32), .int (0 : Int32)]) (rest := []) (o := 109) C hw (c_X7_bad l hr26) k_X7_bad wM_X7_164 ⟨⟨rfl, rfl⟩, ⟨Nat.le_of_ble_eq_true rfl, Nat.le_of_ble_eq_true rfl⟩⟩ rfl (by decide) rfl rfl rfl hl rfl (Nat.le_of_ble_eq_true rfl) dX7_chance_26 ⟨Nat.zero_le _, Nat.zero_le _⟩ (fun H locs hw => ?_)
    refine lv_if_ne (tgt := 61) hx hb dX7_chance_29 (by decide) (fun hc => ?_) (fun hc => ?_)
    · replace hM := h_f hc hM
      refine lv_lconst (v := (0 : Int64)) hx hb dX7_chance_61 (by decide) ?_
      cases h_e hM
      exact a_lret C hw dX7_chance_62
    · replace hM := h_t hc hM
      refine lv_aload_n hx hb dX7_chance_32 rfl (lv_at hl 0 rfl) ?_
      refine lv_iload_n hx hb dX7_chance_33 rfl (lv_at hl 1 rfl) ?_
      obtain ⟨r34, hr34, hM⟩ := h_b hM
      refine a_callS  (σ' := aG r34.2) (v := (some (.int r34.1))) (as := fun ad => [.int x1]) (rest := [.ref (ad 109)]) C hw (c_X7_isHalf l hr34) k_X7_isHalf wM_X7_239 ⟨⟨rfl, rfl⟩, ⟨Nat.le_of_ble_eq_true rfl, Nat.le_of_ble_eq_true rfl⟩⟩ rfl hl rfl (Nat.le_of_ble_eq_true rfl) dX7_chance_34 ⟨Nat.zero_le _, Nat.zero_le _⟩ (fun H locs hw => ?_)
      refine lv_if_eq (tgt := 48) hx hb dX7_chance_37 (by decide) (fun hc => ?_) (fun hc => ?_)
      · replace hM := h_t hc hM
        refine lv_iconst (v := (1 : Int32)) hx hb dX7_chance_48 (by decide) ?_
        refine lv_goto (tgt := 53) hx hb dX7_chance_49 (by decide) ?_
        refine lv_iconst (v := (2 : Int32)) hx hb dX7_chance_53 (by decide) ?_
        refine lv_iconst (v := (1 : Int32)) hx hb dX7_chance_54 (by decide) ?_
        obtain ⟨r55, hr55, hM⟩ := h_b hM
        refine a_callV (σ' := aG r55.2) (v := (some (.int r55.1))) (As := fun ad => [.int (1 : Int32), .int (2 : Int32), .int (1 : Int32)]) (rest := []) (o := 109) C hw (c_X7_bad l hr55) k_X7_bad wM_X7_164 ⟨⟨rfl, rfl⟩, ⟨Nat.le_of_ble_eq_true rfl, Nat.le_of_ble_eq_true rfl⟩⟩ rfl (by decide) rfl rfl rfl hl rfl (Nat.le_of_ble_eq_true rfl) dX7_chance_55 ⟨Nat.zero_le _, Nat.zero_le _⟩ (fun H locs hw => ?_)
        refine lv_if_eq (tgt := 63) hx hb dX7_chance_58 (by decide) (fun hc => ?_) (fun hc => ?_)
        · replace hM := h_t hc hM
          refine lv_aload_n hx hb dX7_chance_63 rfl (lv_at hl 0 rfl) ?_
          refine lv_iload_n hx hb dX7_chance_64 rfl (lv_at hl 3 rfl) ?_
          refine lv_iload hx hb dX7_chance_65 (lv_at hl 4 rfl) ?_
          obtain ⟨r67, hr67, hM⟩ := h_b hM
          refine a_callV (σ' := aG r67) (v := none) (As := fun ad => [.int x3, .int x4]) (rest := []) (o := 109) C hw (c_X7_feels l hr67) k_X7_feels wM_X7_242 ⟨⟨rfl, rfl⟩, ⟨Nat.le_of_ble_eq_true rfl, Nat.le_of_ble_eq_true rfl⟩⟩ rfl (by decide) rfl rfl rfl hl rfl (Nat.le_of_ble_eq_true rfl) dX7_chance_67 ⟨Nat.zero_le _, Nat.zero_le _⟩ (fun H locs hw => ?_)
          refine lv_lconst (v := (0 : Int64)) hx hb dX7_chance_70 (by decide) ?_
          refine lv_lstore (lv' := [(6, .long (0 : Int64)), (0, .ref (ad 109)), (1, .int x1), (2, .int x2), (3, .int x3), (4, .int x4), (5, .int x5)]) hx hb dX7_chance_71 hl (by decide) rfl (fun ls hl => ?_)
          refine lv_iconst (v := (0 : Int32)) hx hb dX7_chance_73 (by decide) ?_
          refine lv_istore (lv' := [(8, .int (0 : Int32)), (6, .long (0 : Int64)), (0, .ref (ad 109)), (1, .int x1), (2, .int x2), (3, .int x3), (4, .int x4), (5, .int x5)]) hx hb dX7_chance_74 hl (by decide) rfl (fun ls hl => ?_)
          exact tl_X7_chance_76 l C aF (x1) (x2) (x3) (x4) (x5) ((0 : Int64)) ((0 : Int32)) hM hw (lv_sub hl [2, 3, 4, 5, 6, 7, 1, 0] rfl)
        · replace hM := h_f hc hM
          refine lv_lconst (v := (0 : Int64)) hx hb dX7_chance_61 (by decide) ?_
          cases h_e hM
          exact a_lret C hw dX7_chance_62
      · replace hM := h_f hc hM
        refine lv_iload hx hb dX7_chance_40 (lv_at hl 5 rfl) ?_
        obtain ⟨r42, hr42, hM⟩ := h_b hM
        refine a_callS  (σ' := aG r42.2) (v := (some (.int r42.1))) (as := fun ad => [.int x5]) (rest := [.ref (ad 109)]) C hw (c_X7_isHalf l hr42) k_X7_isHalf wM_X7_239 ⟨⟨rfl, rfl⟩, ⟨Nat.le_of_ble_eq_true rfl, Nat.le_of_ble_eq_true rfl⟩⟩ rfl hl rfl (Nat.le_of_ble_eq_true rfl) dX7_chance_42 ⟨Nat.zero_le _, Nat.zero_le _⟩ (fun H locs hw => ?_)
        refine lv_if_ne (tgt := 52) hx hb dX7_chance_45 (by decide) (fun hc => ?_) (fun hc => ?_)
        · replace hM := h_f hc hM
          refine lv_iconst (v := (0 : Int32)) hx hb dX7_chance_52 (by decide) ?_
          refine lv_iconst (v := (2 : Int32)) hx hb dX7_chance_53 (by decide) ?_
          refine lv_iconst (v := (1 : Int32)) hx hb dX7_chance_54 (by decide) ?_
          obtain ⟨r55, hr55, hM⟩ := h_b hM
          refine a_callV (σ' := aG r55.2) (v := (some (.int r55.1))) (As := fun ad => [.int (0 : Int32), .int (2 : Int32), .int (1 : Int32)]) (rest := []) (o := 109) C hw (c_X7_bad l hr55) k_X7_bad wM_X7_164 ⟨⟨rfl, rfl⟩, ⟨Nat.le_of_ble_eq_true rfl, Nat.le_of_ble_eq_true rfl⟩⟩ rfl (by decide) rfl rfl rfl hl rfl (Nat.le_of_ble_eq_true rfl) dX7_chance_55 ⟨Nat.zero_le _, Nat.zero_le _⟩ (fun H locs hw => ?_)
          refine lv_if_eq (tgt := 63) hx hb dX7_chance_58 (by decide) (fun hc => ?_) (fun hc => ?_)
          · replace hM := h_t hc hM
            refine lv_aload_n hx hb dX7_chance_63 rfl (lv_at hl 0 rfl) ?_
            refine lv_iload_n hx hb dX7_chance_64 rfl (lv_at hl 3 rfl) ?_
            refine lv_iload hx hb dX7_chance_65 (lv_at hl 4 rfl) ?_
            obtain ⟨r67, hr67, hM⟩ := h_b hM
            refine a_callV (σ' := aG r67) (v := none) (As := fun ad => [.int x3, .int x4]) (rest := []) (o := 109) C hw (c_X7_feels l hr67) k_X7_feels wM_X7_242 ⟨⟨rfl, rfl⟩, ⟨Nat.le_of_ble_eq_true rfl, Nat.le_of_ble_eq_true rfl⟩⟩ rfl (by decide) rfl rfl rfl hl rfl (Nat.le_of_ble_eq_true rfl) dX7_chance_67 ⟨Nat.zero_le _, Nat.zero_le _⟩ (fun H locs hw => ?_)
            refine lv_lconst (v := (0 : Int64)) hx hb dX7_chance_70 (by decide) ?_
            refine lv_lstore (lv' := [(6, .long (0 : Int64)), (0, .ref (ad 109)), (1, .int x1), (2, .int x2), (3, .int x3), (4, .int x4), (5, .int x5)]) hx hb dX7_chance_71 hl (by decide) rfl (fun ls hl => ?_)
            refine lv_iconst (v := (0 : Int32)) hx hb dX7_chance_73 (by decide) ?_
            refine lv_istore (lv' := [(8, .int (0 : Int32)), (6, .long (0 : Int64)), (0, .ref (ad 109)), (1, .int x1), (2, .int x2), (3, .int x3), (4, .int x4), (5, .int x5)]) hx hb dX7_chance_74 hl (by decide) rfl (fun ls hl => ?_)
            exact tl_X7_chance_76 l C aF (x1) (x2) (x3) (x4) (x5) ((0 : Int64)) ((0 : Int32)) hM hw (lv_sub hl [2, 3, 4, 5, 6, 7, 1, 0] rfl)
          · replace hM := h_f hc hM
            refine lv_lconst (v := (0 : Int64)) hx hb dX7_chance_61 (by decide) ?_
            cases h_e hM
            exact a_lret C hw dX7_chance_62
        · replace hM := h_t hc hM
          refine lv_iconst (v := (1 : Int32)) hx hb dX7_chance_48 (by decide) ?_
          refine lv_goto (tgt := 53) hx hb dX7_chance_49 (by decide) ?_
          refine lv_iconst (v := (2 : Int32)) hx hb dX7_chance_53 (by decide) ?_
          refine lv_iconst (v := (1 : Int32)) hx hb dX7_chance_54 (by decide) ?_
          obtain ⟨r55, hr55, hM⟩ := h_b hM
          refine a_callV (σ' := aG r55.2) (v := (some (.int r55.1))) (As := fun ad => [.int (1 : Int32), .int (2 : Int32), .int (1 : Int32)]) (rest := []) (o := 109) C hw (c_X7_bad l hr55) k_X7_bad wM_X7_164 ⟨⟨rfl, rfl⟩, ⟨Nat.le_of_ble_eq_true rfl, Nat.le_of_ble_eq_true rfl⟩⟩ rfl (by decide) rfl rfl rfl hl rfl (Nat.le_of_ble_eq_true rfl) dX7_chance_55 ⟨Nat.zero_le _, Nat.zero_le _⟩ (fun H locs hw => ?_)
          refine lv_if_eq (tgt := 63) hx hb dX7_chance_58 (by decide) (fun hc => ?_) (fun hc => ?_)
          · replace hM := h_t hc hM
            refine lv_aload_n hx hb dX7_chance_63 rfl (lv_at hl 0 rfl) ?_
            refine lv_iload_n hx hb dX7_chance_64 rfl (lv_at hl 3 rfl) ?_
            refine lv_iload hx hb dX7_chance_65 (lv_at hl 4 rfl) ?_
            obtain ⟨r67, hr67, hM⟩ := h_b hM
            refine a_callV (σ' := aG r67) (v := none) (As := fun ad => [.int x3, .int x4]) (rest := []) (o := 109) C hw (c_X7_feels l hr67) k_X7_feels wM_X7_242 ⟨⟨rfl, rfl⟩, ⟨Nat.le_of_ble_eq_true rfl, Nat.le_of_ble_eq_true rfl⟩⟩ rfl (by decide) rfl rfl rfl hl rfl (Nat.le_of_ble_eq_true rfl) dX7_chance_67 ⟨Nat.zero_le _, Nat.zero_le _⟩ (fun H locs hw => ?_)
            refine lv_lconst (v := (0 : Int64)) hx hb dX7_chance_70 (by decide) ?_
            refine lv_lstore (lv' := [(6, .long (0 : Int64)), (0, .ref (ad 109)), (1, .int x1), (2, .int x2), (3, .int x3), (4, .int x4), (5, .int x5)]) hx hb dX7_chance_71 hl (by decide) rfl (fun ls hl => ?_)
            refine lv_iconst (v := (0 : Int32)) hx hb dX7_chance_73 (by decide) ?_
            refine lv_istore (lv' := [(8, .int (0 : Int32)), (6, .long (0 : Int64)), (0, .ref (ad 109)), (1, .int x1), (2, .int x2), (3, .int x3), (4, .int x4), (5, .int x5)]) hx hb dX7_chance_74 hl (by decide) rfl (fun ls hl => ?_)
            exact tl_X7_chance_76 l C aF (x1) (x2) (x3) (x4) (x5) ((0 : Int64)) ((0 : Int32)) hM hw (lv_sub hl [2, 3, 4, 5, 6, 7, 1, 0] rfl)
          · replace hM := h_f hc hM
            refine lv_lconst (v := (0 : Int64)) hx hb dX7_chance_61 (by decide) ?_
            cases h_e hM
            exact a_lret C hw dX7_chance_62
  · replace hM := h_f hc hM
    refine lv_aload_n hx hb dX7_chance_11 rfl (lv_at hl 0 rfl) ?_
    refine lv_iload_n hx hb dX7_chance_12 rfl (lv_at hl 2 rfl) ?_
    obtain ⟨r13, hr13, hM⟩ := h_b hM
    refine a_callV (σ' := aG r13.2) (v := (some (.int r13.1))) (As := fun ad => [.int x2]) (rest := [.ref (ad 109)]) (o := 109) C hw (c_X7_isPerson l hr13) k_X7_isPerson wM_X7_207 ⟨⟨rfl, rfl⟩, ⟨Nat.le_of_ble_eq_true rfl, Nat.le_of_ble_eq_true rfl⟩⟩ rfl (by decide) rfl rfl rfl hl rfl (Nat.le_of_ble_eq_true rfl) dX7_chance_13 ⟨Nat.zero_le _, Nat.zero_le _⟩ (fun H locs hw => ?_)
    refine lv_if_ne (tgt := 23) hx hb dX7_chance_16 (by decide) (fun hc => ?_) (fun hc => ?_)
    · replace hM := h_f hc hM
      refine lv_iconst (v := (0 : Int32)) hx hb dX7_chance_23 (by decide) ?_
      refine lv_iconst (v := (1 : Int32)) hx hb dX7_chance_24 (by decide) ?_
      refine lv_iconst (v := (0 : Int32)) hx hb dX7_chance_25 (by decide) ?_
      obtain ⟨r26, hr26, hM⟩ := h_b hM
      refine a_callV (σ' := aG r26.2) (v := (some (.int r26.1))) (As := fun ad => [.int (0 : Int32), .int (1 : Int32), .int (0 : Int32)]) (rest := []) (o := 109) C hw (c_X7_bad l hr26) k_X7_bad wM_X7_164 ⟨⟨rfl, rfl⟩, ⟨Nat.le_of_ble_eq_true rfl, Nat.le_of_ble_eq_true rfl⟩⟩ rfl (by decide) rfl rfl rfl hl rfl (Nat.le_of_ble_eq_true rfl) dX7_chance_26 ⟨Nat.zero_le _, Nat.zero_le _⟩ (fun H locs hw => ?_)
      refine lv_if_ne (tgt := 61) hx hb dX7_chance_29 (by decide) (fun hc => ?_) (fun hc => ?_)
      · replace hM := h_f hc hM
        refine lv_lconst (v := (0 : Int64)) hx hb dX7_chance_61 (by decide) ?_
        cases h_e hM
        exact a_lret C hw dX7_chance_62
      · replace hM := h_t hc hM
        refine lv_aload_n hx hb dX7_chance_32 rfl (lv_at hl 0 rfl) ?_
        refine lv_iload_n hx hb dX7_chance_33 rfl (lv_at hl 1 rfl) ?_
        obtain ⟨r34, hr34, hM⟩ := h_b hM
        refine a_callS  (σ' := aG r34.2) (v := (some (.int r34.1))) (as := fun ad => [.int x1]) (rest := [.ref (ad 109)]) C hw (c_X7_isHalf l hr34) k_X7_isHalf wM_X7_239 ⟨⟨rfl, rfl⟩, ⟨Nat.le_of_ble_eq_true rfl, Nat.le_of_ble_eq_true rfl⟩⟩ rfl hl rfl (Nat.le_of_ble_eq_true rfl) dX7_chance_34 ⟨Nat.zero_le _, Nat.zero_le _⟩ (fun H locs hw => ?_)
        refine lv_if_eq (tgt := 48) hx hb dX7_chance_37 (by decide) (fun hc => ?_) (fun hc => ?_)
        · replace hM := h_t hc hM
          refine lv_iconst (v := (1 : Int32)) hx hb dX7_chance_48 (by decide) ?_
          refine lv_goto (tgt := 53) hx hb dX7_chance_49 (by decide) ?_
          refine lv_iconst (v := (2 : Int32)) hx hb dX7_chance_53 (by decide) ?_
          refine lv_iconst (v := (1 : Int32)) hx hb dX7_chance_54 (by decide) ?_
          obtain ⟨r55, hr55, hM⟩ := h_b hM
          refine a_callV (σ' := aG r55.2) (v := (some (.int r55.1))) (As := fun ad => [.int (1 : Int32), .int (2 : Int32), .int (1 : Int32)]) (rest := []) (o := 109) C hw (c_X7_bad l hr55) k_X7_bad wM_X7_164 ⟨⟨rfl, rfl⟩, ⟨Nat.le_of_ble_eq_true rfl, Nat.le_of_ble_eq_true rfl⟩⟩ rfl (by decide) rfl rfl rfl hl rfl (Nat.le_of_ble_eq_true rfl) dX7_chance_55 ⟨Nat.zero_le _, Nat.zero_le _⟩ (fun H locs hw => ?_)
          refine lv_if_eq (tgt := 63) hx hb dX7_chance_58 (by decide) (fun hc => ?_) (fun hc => ?_)
          · replace hM := h_t hc hM
            refine lv_aload_n hx hb dX7_chance_63 rfl (lv_at hl 0 rfl) ?_
            refine lv_iload_n hx hb dX7_chance_64 rfl (lv_at hl 3 rfl) ?_
            refine lv_iload hx hb dX7_chance_65 (lv_at hl 4 rfl) ?_
            obtain ⟨r67, hr67, hM⟩ := h_b hM
            refine a_callV (σ' := aG r67) (v := none) (As := fun ad => [.int x3, .int x4]) (rest := []) (o := 109) C hw (c_X7_feels l hr67) k_X7_feels wM_X7_242 ⟨⟨rfl, rfl⟩, ⟨Nat.le_of_ble_eq_true rfl, Nat.le_of_ble_eq_true rfl⟩⟩ rfl (by decide) rfl rfl rfl hl rfl (Nat.le_of_ble_eq_true rfl) dX7_chance_67 ⟨Nat.zero_le _, Nat.zero_le _⟩ (fun H locs hw => ?_)
            refine lv_lconst (v := (0 : Int64)) hx hb dX7_chance_70 (by decide) ?_
            refine lv_lstore (lv' := [(6, .long (0 : Int64)), (0, .ref (ad 109)), (1, .int x1), (2, .int x2), (3, .int x3), (4, .int x4), (5, .int x5)]) hx hb dX7_chance_71 hl (by decide) rfl (fun ls hl => ?_)
            refine lv_iconst (v := (0 : Int32)) hx hb dX7_chance_73 (by decide) ?_
            refine lv_istore (lv' := [(8, .int (0 : Int32)), (6, .long (0 : Int64)), (0, .ref (ad 109)), (1, .int x1), (2, .int x2), (3, .int x3), (4, .int x4), (5, .int x5)]) hx hb dX7_chance_74 hl (by decide) rfl (fun ls hl => ?_)
            exact tl_X7_chance_76 l C aF (x1) (x2) (x3) (x4) (x5) ((0 : Int64)) ((0 : Int32)) hM hw (lv_sub hl [2, 3, 4, 5, 6, 7, 1, 0] rfl)
          · replace hM := h_f hc hM
            refine lv_lconst (v := (0 : Int64)) hx hb dX7_chance_61 (by decide) ?_
            cases h_e hM
            exact a_lret C hw dX7_chance_62
        · replace hM := h_f hc hM
          refine lv_iload hx hb dX7_chance_40 (lv_at hl 5 rfl) ?_
          obtain ⟨r42, hr42, hM⟩ := h_b hM
          refine a_callS  (σ' := aG r42.2) (v := (some (.int r42.1))) (as := fun ad => [.int x5]) (rest := [.ref (ad 109)]) C hw (c_X7_isHalf l hr42) k_X7_isHalf wM_X7_239 ⟨⟨rfl, rfl⟩, ⟨Nat.le_of_ble_eq_true rfl, Nat.le_of_ble_eq_true rfl⟩⟩ rfl hl rfl (Nat.le_of_ble_eq_true rfl) dX7_chance_42 ⟨Nat.zero_le _, Nat.zero_le _⟩ (fun H locs hw => ?_)
          refine lv_if_ne (tgt := 52) hx hb dX7_chance_45 (by decide) (fun hc => ?_) (fun hc => ?_)
          · replace hM := h_f hc hM
            refine lv_iconst (v := (0 : Int32)) hx hb dX7_chance_52 (by decide) ?_
            refine lv_iconst (v := (2 : Int32)) hx hb dX7_chance_53 (by decide) ?_
            refine lv_iconst (v := (1 : Int32)) hx hb dX7_chance_54 (by decide) ?_
            obtain ⟨r55, hr55, hM⟩ := h_b hM
            refine a_callV (σ' := aG r55.2) (v := (some (.int r55.1))) (As := fun ad => [.int (0 : Int32), .int (2 : Int32), .int (1 : Int32)]) (rest := []) (o := 109) C hw (c_X7_bad l hr55) k_X7_bad wM_X7_164 ⟨⟨rfl, rfl⟩, ⟨Nat.le_of_ble_eq_true rfl, Nat.le_of_ble_eq_true rfl⟩⟩ rfl (by decide) rfl rfl rfl hl rfl (Nat.le_of_ble_eq_true rfl) dX7_chance_55 ⟨Nat.zero_le _, Nat.zero_le _⟩ (fun H locs hw => ?_)
            refine lv_if_eq (tgt := 63) hx hb dX7_chance_58 (by decide) (fun hc => ?_) (fun hc => ?_)
            · replace hM := h_t hc hM
              refine lv_aload_n hx hb dX7_chance_63 rfl (lv_at hl 0 rfl) ?_
              refine lv_iload_n hx hb dX7_chance_64 rfl (lv_at hl 3 rfl) ?_
              refine lv_iload hx hb dX7_chance_65 (lv_at hl 4 rfl) ?_
              obtain ⟨r67, hr67, hM⟩ := h_b hM
              refine a_callV (σ' := aG r67) (v := none) (As := fun ad => [.int x3, .int x4]) (rest := []) (o := 109) C hw (c_X7_feels l hr67) k_X7_feels wM_X7_242 ⟨⟨rfl, rfl⟩, ⟨Nat.le_of_ble_eq_true rfl, Nat.le_of_ble_eq_true rfl⟩⟩ rfl (by decide) rfl rfl rfl hl rfl (Nat.le_of_ble_eq_true rfl) dX7_chance_67 ⟨Nat.zero_le _, Nat.zero_le _⟩ (fun H locs hw => ?_)
              refine lv_lconst (v := (0 : Int64)) hx hb dX7_chance_70 (by decide) ?_
              refine lv_lstore (lv' := [(6, .long (0 : Int64)), (0, .ref (ad 109)), (1, .int x1), (2, .int x2), (3, .int x3), (4, .int x4), (5, .int x5)]) hx hb dX7_chance_71 hl (by decide) rfl (fun ls hl => ?_)
              refine lv_iconst (v := (0 : Int32)) hx hb dX7_chance_73 (by decide) ?_
              refine lv_istore (lv' := [(8, .int (0 : Int32)), (6, .long (0 : Int64)), (0, .ref (ad 109)), (1, .int x1), (2, .int x2), (3, .int x3), (4, .int x4), (5, .int x5)]) hx hb dX7_chance_74 hl (by decide) rfl (fun ls hl => ?_)
              exact tl_X7_chance_76 l C aF (x1) (x2) (x3) (x4) (x5) ((0 : Int64)) ((0 : Int32)) hM hw (lv_sub hl [2, 3, 4, 5, 6, 7, 1, 0] rfl)
            · replace hM := h_f hc hM
              refine lv_lconst (v := (0 : Int64)) hx hb dX7_chance_61 (by decide) ?_
              cases h_e hM
              exact a_lret C hw dX7_chance_62
          · replace hM := h_t hc hM
            refine lv_iconst (v := (1 : Int32)) hx hb dX7_chance_48 (by decide) ?_
            refine lv_goto (tgt := 53) hx hb dX7_chance_49 (by decide) ?_
            refine lv_iconst (v := (2 : Int32)) hx hb dX7_chance_53 (by decide) ?_
            refine lv_iconst (v := (1 : Int32)) hx hb dX7_chance_54 (by decide) ?_
            obtain ⟨r55, hr55, hM⟩ := h_b hM
            refine a_callV (σ' := aG r55.2) (v := (some (.int r55.1))) (As := fun ad => [.int (1 : Int32), .int (2 : Int32), .int (1 : Int32)]) (rest := []) (o := 109) C hw (c_X7_bad l hr55) k_X7_bad wM_X7_164 ⟨⟨rfl, rfl⟩, ⟨Nat.le_of_ble_eq_true rfl, Nat.le_of_ble_eq_true rfl⟩⟩ rfl (by decide) rfl rfl rfl hl rfl (Nat.le_of_ble_eq_true rfl) dX7_chance_55 ⟨Nat.zero_le _, Nat.zero_le _⟩ (fun H locs hw => ?_)
            refine lv_if_eq (tgt := 63) hx hb dX7_chance_58 (by decide) (fun hc => ?_) (fun hc => ?_)
            · replace hM := h_t hc hM
              refine lv_aload_n hx hb dX7_chance_63 rfl (lv_at hl 0 rfl) ?_
              refine lv_iload_n hx hb dX7_chance_64 rfl (lv_at hl 3 rfl) ?_
              refine lv_iload hx hb dX7_chance_65 (lv_at hl 4 rfl) ?_
              obtain ⟨r67, hr67, hM⟩ := h_b hM
              refine a_callV (σ' := aG r67) (v := none) (As := fun ad => [.int x3, .int x4]) (rest := []) (o := 109) C hw (c_X7_feels l hr67) k_X7_feels wM_X7_242 ⟨⟨rfl, rfl⟩, ⟨Nat.le_of_ble_eq_true rfl, Nat.le_of_ble_eq_true rfl⟩⟩ rfl (by decide) rfl rfl rfl hl rfl (Nat.le_of_ble_eq_true rfl) dX7_chance_67 ⟨Nat.zero_le _, Nat.zero_le _⟩ (fun H locs hw => ?_)
              refine lv_lconst (v := (0 : Int64)) hx hb dX7_chance_70 (by decide) ?_
              refine lv_lstore (lv' := [(6, .long (0 : Int64)), (0, .ref (ad 109)), (1, .int x1), (2, .int x2), (3, .int x3), (4, .int x4), (5, .int x5)]) hx hb dX7_chance_71 hl (by decide) rfl (fun ls hl => ?_)
              refine lv_iconst (v := (0 : Int32)) hx hb dX7_chance_73 (by decide) ?_
              refine lv_istore (lv' := [(8, .int (0 : Int32)), (6, .long (0 : Int64)), (0, .ref (ad 109)), (1, .int x1), (2, .int x2), (3, .int x3), (4, .int x4), (5, .int x5)]) hx hb dX7_chance_74 hl (by decide) rfl (fun ls hl => ?_)
              exact tl_X7_chance_76 l C aF (x1) (x2) (x3) (x4) (x5) ((0 : Int64)) ((0 : Int32)) hM hw (lv_sub hl [2, 3, 4, 5, 6, 7, 1, 0] rfl)
            · replace hM := h_f hc hM
              refine lv_lconst (v := (0 : Int64)) hx hb dX7_chance_61 (by decide) ?_
              cases h_e hM
              exact a_lret C hw dX7_chance_62
    · replace hM := h_t hc hM
      refine lv_iconst (v := (1 : Int32)) hx hb dX7_chance_19 (by decide) ?_
      refine lv_goto (tgt := 24) hx hb dX7_chance_20 (by decide) ?_
      refine lv_iconst (v := (1 : Int32)) hx hb dX7_chance_24 (by decide) ?_
      refine lv_iconst (v := (0 : Int32)) hx hb dX7_chance_25 (by decide) ?_
      obtain ⟨r26, hr26, hM⟩ := h_b hM
      refine a_callV (σ' := aG r26.2) (v := (some (.int r26.1))) (As := fun ad => [.int (1 : Int32), .int (1 : Int32), .int (0 : Int32)]) (rest := []) (o := 109) C hw (c_X7_bad l hr26) k_X7_bad wM_X7_164 ⟨⟨rfl, rfl⟩, ⟨Nat.le_of_ble_eq_true rfl, Nat.le_of_ble_eq_true rfl⟩⟩ rfl (by decide) rfl rfl rfl hl rfl (Nat.le_of_ble_eq_true rfl) dX7_chance_26 ⟨Nat.zero_le _, Nat.zero_le _⟩ (fun H locs hw => ?_)
      refine lv_if_ne (tgt := 61) hx hb dX7_chance_29 (by decide) (fun hc => ?_) (fun hc => ?_)
      · replace hM := h_f hc hM
        refine lv_lconst (v := (0 : Int64)) hx hb dX7_chance_61 (by decide) ?_
        cases h_e hM
        exact a_lret C hw dX7_chance_62
      · replace hM := h_t hc hM
        refine lv_aload_n hx hb dX7_chance_32 rfl (lv_at hl 0 rfl) ?_
        refine lv_iload_n hx hb dX7_chance_33 rfl (lv_at hl 1 rfl) ?_
        obtain ⟨r34, hr34, hM⟩ := h_b hM
        refine a_callS  (σ' := aG r34.2) (v := (some (.int r34.1))) (as := fun ad => [.int x1]) (rest := [.ref (ad 109)]) C hw (c_X7_isHalf l hr34) k_X7_isHalf wM_X7_239 ⟨⟨rfl, rfl⟩, ⟨Nat.le_of_ble_eq_true rfl, Nat.le_of_ble_eq_true rfl⟩⟩ rfl hl rfl (Nat.le_of_ble_eq_true rfl) dX7_chance_34 ⟨Nat.zero_le _, Nat.zero_le _⟩ (fun H locs hw => ?_)
        refine lv_if_eq (tgt := 48) hx hb dX7_chance_37 (by decide) (fun hc => ?_) (fun hc => ?_)
        · replace hM := h_t hc hM
          refine lv_iconst (v := (1 : Int32)) hx hb dX7_chance_48 (by decide) ?_
          refine lv_goto (tgt := 53) hx hb dX7_chance_49 (by decide) ?_
          refine lv_iconst (v := (2 : Int32)) hx hb dX7_chance_53 (by decide) ?_
          refine lv_iconst (v := (1 : Int32)) hx hb dX7_chance_54 (by decide) ?_
          obtain ⟨r55, hr55, hM⟩ := h_b hM
          refine a_callV (σ' := aG r55.2) (v := (some (.int r55.1))) (As := fun ad => [.int (1 : Int32), .int (2 : Int32), .int (1 : Int32)]) (rest := []) (o := 109) C hw (c_X7_bad l hr55) k_X7_bad wM_X7_164 ⟨⟨rfl, rfl⟩, ⟨Nat.le_of_ble_eq_true rfl, Nat.le_of_ble_eq_true rfl⟩⟩ rfl (by decide) rfl rfl rfl hl rfl (Nat.le_of_ble_eq_true rfl) dX7_chance_55 ⟨Nat.zero_le _, Nat.zero_le _⟩ (fun H locs hw => ?_)
          refine lv_if_eq (tgt := 63) hx hb dX7_chance_58 (by decide) (fun hc => ?_) (fun hc => ?_)
          · replace hM := h_t hc hM
            refine lv_aload_n hx hb dX7_chance_63 rfl (lv_at hl 0 rfl) ?_
            refine lv_iload_n hx hb dX7_chance_64 rfl (lv_at hl 3 rfl) ?_
            refine lv_iload hx hb dX7_chance_65 (lv_at hl 4 rfl) ?_
            obtain ⟨r67, hr67, hM⟩ := h_b hM
            refine a_callV (σ' := aG r67) (v := none) (As := fun ad => [.int x3, .int x4]) (rest := []) (o := 109) C hw (c_X7_feels l hr67) k_X7_feels wM_X7_242 ⟨⟨rfl, rfl⟩, ⟨Nat.le_of_ble_eq_true rfl, Nat.le_of_ble_eq_true rfl⟩⟩ rfl (by decide) rfl rfl rfl hl rfl (Nat.le_of_ble_eq_true rfl) dX7_chance_67 ⟨Nat.zero_le _, Nat.zero_le _⟩ (fun H locs hw => ?_)
            refine lv_lconst (v := (0 : Int64)) hx hb dX7_chance_70 (by decide) ?_
            refine lv_lstore (lv' := [(6, .long (0 : Int64)), (0, .ref (ad 109)), (1, .int x1), (2, .int x2), (3, .int x3), (4, .int x4), (5, .int x5)]) hx hb dX7_chance_71 hl (by decide) rfl (fun ls hl => ?_)
            refine lv_iconst (v := (0 : Int32)) hx hb dX7_chance_73 (by decide) ?_
            refine lv_istore (lv' := [(8, .int (0 : Int32)), (6, .long (0 : Int64)), (0, .ref (ad 109)), (1, .int x1), (2, .int x2), (3, .int x3), (4, .int x4), (5, .int x5)]) hx hb dX7_chance_74 hl (by decide) rfl (fun ls hl => ?_)
            exact tl_X7_chance_76 l C aF (x1) (x2) (x3) (x4) (x5) ((0 : Int64)) ((0 : Int32)) hM hw (lv_sub hl [2, 3, 4, 5, 6, 7, 1, 0] rfl)
          · replace hM := h_f hc hM
            refine lv_lconst (v := (0 : Int64)) hx hb dX7_chance_61 (by decide) ?_
            cases h_e hM
            exact a_lret C hw dX7_chance_62
        · replace hM := h_f hc hM
          refine lv_iload hx hb dX7_chance_40 (lv_at hl 5 rfl) ?_
          obtain ⟨r42, hr42, hM⟩ := h_b hM
          refine a_callS  (σ' := aG r42.2) (v := (some (.int r42.1))) (as := fun ad => [.int x5]) (rest := [.ref (ad 109)]) C hw (c_X7_isHalf l hr42) k_X7_isHalf wM_X7_239 ⟨⟨rfl, rfl⟩, ⟨Nat.le_of_ble_eq_true rfl, Nat.le_of_ble_eq_true rfl⟩⟩ rfl hl rfl (Nat.le_of_ble_eq_true rfl) dX7_chance_42 ⟨Nat.zero_le _, Nat.zero_le _⟩ (fun H locs hw => ?_)
          refine lv_if_ne (tgt := 52) hx hb dX7_chance_45 (by decide) (fun hc => ?_) (fun hc => ?_)
          · replace hM := h_f hc hM
            refine lv_iconst (v := (0 : Int32)) hx hb dX7_chance_52 (by decide) ?_
            refine lv_iconst (v := (2 : Int32)) hx hb dX7_chance_53 (by decide) ?_
            refine lv_iconst (v := (1 : Int32)) hx hb dX7_chance_54 (by decide) ?_
            obtain ⟨r55, hr55, hM⟩ := h_b hM
            refine a_callV (σ' := aG r55.2) (v := (some (.int r55.1))) (As := fun ad => [.int (0 : Int32), .int (2 : Int32), .int (1 : Int32)]) (rest := []) (o := 109) C hw (c_X7_bad l hr55) k_X7_bad wM_X7_164 ⟨⟨rfl, rfl⟩, ⟨Nat.le_of_ble_eq_true rfl, Nat.le_of_ble_eq_true rfl⟩⟩ rfl (by decide) rfl rfl rfl hl rfl (Nat.le_of_ble_eq_true rfl) dX7_chance_55 ⟨Nat.zero_le _, Nat.zero_le _⟩ (fun H locs hw => ?_)
            refine lv_if_eq (tgt := 63) hx hb dX7_chance_58 (by decide) (fun hc => ?_) (fun hc => ?_)
            · replace hM := h_t hc hM
              refine lv_aload_n hx hb dX7_chance_63 rfl (lv_at hl 0 rfl) ?_
              refine lv_iload_n hx hb dX7_chance_64 rfl (lv_at hl 3 rfl) ?_
              refine lv_iload hx hb dX7_chance_65 (lv_at hl 4 rfl) ?_
              obtain ⟨r67, hr67, hM⟩ := h_b hM
              refine a_callV (σ' := aG r67) (v := none) (As := fun ad => [.int x3, .int x4]) (rest := []) (o := 109) C hw (c_X7_feels l hr67) k_X7_feels wM_X7_242 ⟨⟨rfl, rfl⟩, ⟨Nat.le_of_ble_eq_true rfl, Nat.le_of_ble_eq_true rfl⟩⟩ rfl (by decide) rfl rfl rfl hl rfl (Nat.le_of_ble_eq_true rfl) dX7_chance_67 ⟨Nat.zero_le _, Nat.zero_le _⟩ (fun H locs hw => ?_)
              refine lv_lconst (v := (0 : Int64)) hx hb dX7_chance_70 (by decide) ?_
              refine lv_lstore (lv' := [(6, .long (0 : Int64)), (0, .ref (ad 109)), (1, .int x1), (2, .int x2), (3, .int x3), (4, .int x4), (5, .int x5)]) hx hb dX7_chance_71 hl (by decide) rfl (fun ls hl => ?_)
              refine lv_iconst (v := (0 : Int32)) hx hb dX7_chance_73 (by decide) ?_
              refine lv_istore (lv' := [(8, .int (0 : Int32)), (6, .long (0 : Int64)), (0, .ref (ad 109)), (1, .int x1), (2, .int x2), (3, .int x3), (4, .int x4), (5, .int x5)]) hx hb dX7_chance_74 hl (by decide) rfl (fun ls hl => ?_)
              exact tl_X7_chance_76 l C aF (x1) (x2) (x3) (x4) (x5) ((0 : Int64)) ((0 : Int32)) hM hw (lv_sub hl [2, 3, 4, 5, 6, 7, 1, 0] rfl)
            · replace hM := h_f hc hM
              refine lv_lconst (v := (0 : Int64)) hx hb dX7_chance_61 (by decide) ?_
              cases h_e hM
              exact a_lret C hw dX7_chance_62
          · replace hM := h_t hc hM
            refine lv_iconst (v := (1 : Int32)) hx hb dX7_chance_48 (by decide) ?_
            refine lv_goto (tgt := 53) hx hb dX7_chance_49 (by decide) ?_
            refine lv_iconst (v := (2 : Int32)) hx hb dX7_chance_53 (by decide) ?_
            refine lv_iconst (v := (1 : Int32)) hx hb dX7_chance_54 (by decide) ?_
            obtain ⟨r55, hr55, hM⟩ := h_b hM
            refine a_callV (σ' := aG r55.2) (v := (some (.int r55.1))) (As := fun ad => [.int (1 : Int32), .int (2 : Int32), .int (1 : Int32)]) (rest := []) (o := 109) C hw (c_X7_bad l hr55) k_X7_bad wM_X7_164 ⟨⟨rfl, rfl⟩, ⟨Nat.le_of_ble_eq_true rfl, Nat.le_of_ble_eq_true rfl⟩⟩ rfl (by decide) rfl rfl rfl hl rfl (Nat.le_of_ble_eq_true rfl) dX7_chance_55 ⟨Nat.zero_le _, Nat.zero_le _⟩ (fun H locs hw => ?_)
            refine lv_if_eq (tgt := 63) hx hb dX7_chance_58 (by decide) (fun hc => ?_) (fun hc => ?_)
            · replace hM := h_t hc hM
              refine lv_aload_n hx hb dX7_chance_63 rfl (lv_at hl 0 rfl) ?_
              refine lv_iload_n hx hb dX7_chance_64 rfl (lv_at hl 3 rfl) ?_
              refine lv_iload hx hb dX7_chance_65 (lv_at hl 4 rfl) ?_
              obtain ⟨r67, hr67, hM⟩ := h_b hM
              refine a_callV (σ' := aG r67) (v := none) (As := fun ad => [.int x3, .int x4]) (rest := []) (o := 109) C hw (c_X7_feels l hr67) k_X7_feels wM_X7_242 ⟨⟨rfl, rfl⟩, ⟨Nat.le_of_ble_eq_true rfl, Nat.le_of_ble_eq_true rfl⟩⟩ rfl (by decide) rfl rfl rfl hl rfl (Nat.le_of_ble_eq_true rfl) dX7_chance_67 ⟨Nat.zero_le _, Nat.zero_le _⟩ (fun H locs hw => ?_)
              refine lv_lconst (v := (0 : Int64)) hx hb dX7_chance_70 (by decide) ?_
              refine lv_lstore (lv' := [(6, .long (0 : Int64)), (0, .ref (ad 109)), (1, .int x1), (2, .int x2), (3, .int x3), (4, .int x4), (5, .int x5)]) hx hb dX7_chance_71 hl (by decide) rfl (fun ls hl => ?_)
              refine lv_iconst (v := (0 : Int32)) hx hb dX7_chance_73 (by decide) ?_
              refine lv_istore (lv' := [(8, .int (0 : Int32)), (6, .long (0 : Int64)), (0, .ref (ad 109)), (1, .int x1), (2, .int x2), (3, .int x3), (4, .int x4), (5, .int x5)]) hx hb dX7_chance_74 hl (by decide) rfl (fun ls hl => ?_)
              exact tl_X7_chance_76 l C aF (x1) (x2) (x3) (x4) (x5) ((0 : Int64)) ((0 : Int32)) hM hw (lv_sub hl [2, 3, 4, 5, 6, 7, 1, 0] rfl)
            · replace hM := h_f hc hM
              refine lv_lconst (v := (0 : Int64)) hx hb dX7_chance_61 (by decide) ?_
              cases h_e hM
              exact a_lret C hw dX7_chance_62
def rm_X7_adds : Room := { frames := 0, cells := 0, slots := 0, locals := 0 }
theorem k_X7_adds : aCal RX7 yX7_adds cX7_adds 2 none 1 := ⟨wI_yX7_adds, wE_yX7_adds, wZ_X7, wC_yX7_adds, by decide +kernel⟩
set_option maxHeartbeats 4000000 in
set_option maxRecDepth 100000 in
theorem c_X7_adds (l : Launch) {x1 : Int32} {ι : iS} {res : iS} (hM : m_X7_adds x1 ι = some res) : aM l yX7_adds cX7_adds 2 none rm_X7_adds (fun ad => [.ref (ad 109), .int x1]) (aG ι) none (aG res) := by
  refine aM.of (by decide) (fun _ => Nat.le_of_ble_eq_true rfl) ?_
  intro p e s m args below meth c D dA ad adV A ls C hw hl
  have C : aX p m c cX7_adds 2 s args aTs RX7 meth none := C
  have hx := C.1.1
  have hb := C.1.2.1
  have hml := C.1.2.2.1
  have hown := C.1.2.2.2.1
  have hts := C.1.2.2.2.2
  have hl : lv_has ls 2 [(0, .ref (ad 109)), (1, .int x1)] := hl
  unfold m_X7_adds at hM
  refine lv_aload_n hx hb dX7_adds_0 rfl (lv_at hl 0 rfl) ?_
  refine lv_dup hx hb dX7_adds_1 rfl ?_
  refine a_getj (σ := aG ι) (o := 109) (T := TX7) (N := 20) C wU_X7 hw rfl (by decide) rfl 18 (by decide) rfl wF_X7_258 dX7_adds_2 ?_
  refine lv_iload_n hx hb dX7_adds_5 rfl (lv_at hl 1 rfl) ?_
  refine lv_i2l hx hb dX7_adds_6 rfl ?_
  refine lv_ladd hx hb dX7_adds_7 ?_
  refine a_putj (σ := aG ι) (o := 109) (T := TX7) (N := 20) (ty0 := tyX7) C wU_X7 tyX7_ok nmX7 hw rfl (by decide) rfl 18 (by decide) rfl wF_X7_258 rfl (by decide +kernel) dX7_adds_8 (fun H locs hw => ?_)
  have hw : aW D dA ad adV (aG (pJ ι 109 18 ((gJ ι 109 18) + (x1).toInt64))) A s H locs := hw
  refine lv_aload_n hx hb dX7_adds_11 rfl (lv_at hl 0 rfl) ?_
  refine lv_dup hx hb dX7_adds_12 rfl ?_
  refine a_getj (σ := aG (pJ ι 109 18 ((gJ ι 109 18) + (x1).toInt64))) (o := 109) (T := TX7) (N := 20) C wU_X7 hw rfl (by decide) rfl 19 (by decide) rfl wF_X7_261 dX7_adds_13 ?_
  refine lv_iload_n hx hb dX7_adds_16 rfl (lv_at hl 1 rfl) ?_
  refine lv_i2l hx hb dX7_adds_17 rfl ?_
  refine lv_iload_n hx hb dX7_adds_18 rfl (lv_at hl 1 rfl) ?_
  refine lv_i2l hx hb dX7_adds_19 rfl ?_
  refine lv_lmul hx hb dX7_adds_20 ?_
  refine lv_ladd hx hb dX7_adds_21 ?_
  refine a_putj (σ := aG (pJ ι 109 18 ((gJ ι 109 18) + (x1).toInt64))) (o := 109) (T := TX7) (N := 20) (ty0 := tyX7) C wU_X7 tyX7_ok nmX7 hw rfl (by decide) rfl 19 (by decide) rfl wF_X7_261 rfl (by decide +kernel) dX7_adds_22 (fun H locs hw => ?_)
  have hw : aW D dA ad adV (aG (pJ (pJ ι 109 18 ((gJ ι 109 18) + (x1).toInt64)) 109 19 ((gJ (pJ ι 109 18 ((gJ ι 109 18) + (x1).toInt64)) 109 19) + ((x1).toInt64 * (x1).toInt64)))) A s H locs := hw
  cases h_e hM
  exact a_vret C hw dX7_adds_25
def rm_X7_clears : Room := { frames := 0, cells := 0, slots := 0, locals := 0 }
theorem k_X7_clears : aCal RX7 yX7_clears cX7_clears 1 none 0 := ⟨wI_yX7_clears, wE_yX7_clears, wZ_X7, wC_yX7_clears, by decide +kernel⟩
set_option maxHeartbeats 4000000 in
set_option maxRecDepth 100000 in
theorem c_X7_clears (l : Launch) {ι : iS} {res : iS} (hM : m_X7_clears ι = some res) : aM l yX7_clears cX7_clears 1 none rm_X7_clears (fun ad => [.ref (ad 109)]) (aG ι) none (aG res) := by
  refine aM.of (by decide) (fun _ => Nat.le_of_ble_eq_true rfl) ?_
  intro p e s m args below meth c D dA ad adV A ls C hw hl
  have C : aX p m c cX7_clears 1 s args aTs RX7 meth none := C
  have hx := C.1.1
  have hb := C.1.2.1
  have hml := C.1.2.2.1
  have hown := C.1.2.2.2.1
  have hts := C.1.2.2.2.2
  have hl : lv_has ls 1 [(0, .ref (ad 109))] := hl
  unfold m_X7_clears at hM
  refine lv_aload_n hx hb dX7_clears_0 rfl (lv_at hl 0 rfl) ?_
  refine lv_lconst (v := (0 : Int64)) hx hb dX7_clears_1 (by decide) ?_
  refine a_putj (σ := aG ι) (o := 109) (T := TX7) (N := 20) (ty0 := tyX7) C wU_X7 tyX7_ok nmX7 hw rfl (by decide) rfl 18 (by decide) rfl wF_X7_258 rfl (by decide +kernel) dX7_clears_2 (fun H locs hw => ?_)
  have hw : aW D dA ad adV (aG (pJ ι 109 18 (0 : Int64))) A s H locs := hw
  refine lv_aload_n hx hb dX7_clears_5 rfl (lv_at hl 0 rfl) ?_
  refine lv_lconst (v := (0 : Int64)) hx hb dX7_clears_6 (by decide) ?_
  refine a_putj (σ := aG (pJ ι 109 18 (0 : Int64))) (o := 109) (T := TX7) (N := 20) (ty0 := tyX7) C wU_X7 tyX7_ok nmX7 hw rfl (by decide) rfl 19 (by decide) rfl wF_X7_261 rfl (by decide +kernel) dX7_clears_7 (fun H locs hw => ?_)
  have hw : aW D dA ad adV (aG (pJ (pJ ι 109 18 (0 : Int64)) 109 19 (0 : Int64))) A s H locs := hw
  cases h_e hM
  exact a_vret C hw dX7_clears_10
def rm_X7_size : Room := { frames := 4, cells := 0, slots := 0, locals := 100 }
set_option maxHeartbeats 4000000 in
set_option maxRecDepth 100000 in
theorem tl_X7_size_36 (l : Launch) {p : Program} {e : Env} {s : State} {m : MethodId} {args : Array Value} {below : List Frame} {meth : Method} {c : Code} {D : va_G} {dA : Nat → ClassId} {ad adV : Nat → Nat} {A : Nat → Prop} (C : aX p m c cX7_size 3 s args aTs RX7 meth (some .long)) {res : Int64 × iS} : ∀ (n : Nat) (y1 : Int32) (y2 : Int32) {ι : iS}, l_X7_size_36 n y1 y2 ι = some res → ∀ {H : Heap} {locs : List Loc} {ls : Array Slot}, aW D dA ad adV (aG ι) A s H locs → lv_has ls 3 [(0, .ref (ad 109)), (1, .int y1), (2, .int y2)] → W p l e rm_X7_size s m args below meth c H locs 0 0 (MQ below (aQ D dA ad (aG res.2) A (some (.long res.1))) args s 0 0 A) (F0 m 36 ls []) := by
  have hx := C.1.1
  have hb := C.1.2.1
  have hml := C.1.2.2.1
  have hown := C.1.2.2.2.1
  have hts := C.1.2.2.2.2
  intro n
  induction n with
  | zero => intro y1 y2 ι hM; simp [l_X7_size_36] at hM
  | succ n ih =>
    intro y1 y2 ι hM H locs ls hw hl
    rw [l_X7_size_36] at hM
    refine lv_iload_n hx hb dX7_size_36 rfl (lv_at hl 2 rfl) ?_
    refine lv_aload_n hx hb dX7_size_37 rfl (lv_at hl 0 rfl) ?_
    refine a_getp (q := 112) (σ := aG ι) (o := 109) (T := TX7) (N := 20) C wU_X7 hw rfl (by decide) rfl 9 (by decide) rfl wF_X7_20 (aG_P rfl rfl) dX7_size_38 ?_
    refine lv_iconst (v := (3 : Int32)) hx hb dX7_size_41 (by decide) ?_
    refine a_iald (σ := aG ι) (o := 112) C hw rfl (aIn_v (by decide)) (show (3 : Int32).toNatClampNeg = 3 by decide) dX7_size_42 ?_
    refine lv_icmp_ge (tgt := 95) hx hb dX7_size_43 (by decide) (fun hc => ?_) (fun hc => ?_)
    · replace hM := h_t hc hM
      refine lv_aload_n hx hb dX7_size_95 rfl (lv_at hl 0 rfl) ?_
      refine a_getj (σ := aG ι) (o := 109) (T := TX7) (N := 20) C wU_X7 hw rfl (by decide) rfl 18 (by decide) rfl wF_X7_258 dX7_size_96 ?_
      refine lv_aload_n hx hb dX7_size_99 rfl (lv_at hl 0 rfl) ?_
      refine a_getj (σ := aG ι) (o := 109) (T := TX7) (N := 20) C wU_X7 hw rfl (by decide) rfl 18 (by decide) rfl wF_X7_258 dX7_size_100 ?_
      refine lv_lmul hx hb dX7_size_103 ?_
      refine lv_aload_n hx hb dX7_size_104 rfl (lv_at hl 0 rfl) ?_
      refine a_getj (σ := aG ι) (o := 109) (T := TX7) (N := 20) C wU_X7 hw rfl (by decide) rfl 19 (by decide) rfl wF_X7_261 dX7_size_105 ?_
      refine lv_iload_n hx hb dX7_size_108 rfl (lv_at hl 1 rfl) ?_
      refine lv_iconst (v := (2 : Int32)) hx hb dX7_size_109 (by decide) ?_
      refine lv_irem hx hb dX7_size_110 (by decide) ?_
      obtain ⟨r111, hr111, hM⟩ := h_b hM
      refine a_callS  (σ' := aG r111.2) (v := (some (.long r111.1))) (as := fun ad => [.long ((gJ ι 109 18) * (gJ ι 109 18)), .long (gJ ι 109 19), .int (y1 - y1 / (2 : Int32) * (2 : Int32))]) (rest := []) C hw (c_X7_terms l hr111) k_X7_terms wM_X7_254 ⟨⟨rfl, rfl⟩, ⟨Nat.le_of_ble_eq_true rfl, Nat.le_of_ble_eq_true rfl⟩⟩ rfl hl rfl (Nat.le_of_ble_eq_true rfl) dX7_size_111 ⟨Nat.zero_le _, Nat.zero_le _⟩ (fun H locs hw => ?_)
      cases h_e hM
      exact a_lret C hw dX7_size_114
    · replace hM := h_f hc hM
      refine lv_aload_n hx hb dX7_size_46 rfl (lv_at hl 0 rfl) ?_
      refine lv_iload_n hx hb dX7_size_47 rfl (lv_at hl 1 rfl) ?_
      refine lv_iconst (v := (2 : Int32)) hx hb dX7_size_48 (by decide) ?_
      refine lv_icmp_ge (tgt := 69) hx hb dX7_size_49 (by decide) (fun hc => ?_) (fun hc => ?_)
      · replace hM := h_t hc hM
        refine lv_aload_n hx hb dX7_size_69 rfl (lv_at hl 0 rfl) ?_
        refine a_getp (q := 112) (σ := aG ι) (o := 109) (T := TX7) (N := 20) C wU_X7 hw rfl (by decide) rfl 9 (by decide) rfl wF_X7_20 (aG_P rfl rfl) dX7_size_70 ?_
        refine lv_bipush (v := (107 : Int32)) hx hb dX7_size_73 (by decide) ?_
        refine lv_aload_n hx hb dX7_size_75 rfl (lv_at hl 0 rfl) ?_
        refine a_getp (q := 112) (σ := aG ι) (o := 109) (T := TX7) (N := 20) C wU_X7 hw rfl (by decide) rfl 9 (by decide) rfl wF_X7_20 (aG_P rfl rfl) dX7_size_76 ?_
        refine lv_bipush (v := (99 : Int32)) hx hb dX7_size_79 (by decide) ?_
        refine lv_iload_n hx hb dX7_size_81 rfl (lv_at hl 2 rfl) ?_
        refine lv_iadd hx hb dX7_size_82 ?_
        obtain ⟨hi, hM⟩ := h_i hM
        refine a_iald (σ := aG ι) (o := 112) C hw rfl hi rfl dX7_size_83 ?_
        refine lv_iadd hx hb dX7_size_84 ?_
        obtain ⟨hi, hM⟩ := h_i hM
        refine a_iald (σ := aG ι) (o := 112) C hw rfl hi rfl dX7_size_85 ?_
        obtain ⟨r86, hr86, hM⟩ := h_b hM
        refine a_callV (σ' := aG r86) (v := none) (As := fun ad => [.int (gI ι 112 ((107 : Int32) + (gI ι 112 ((99 : Int32) + y2).toNatClampNeg)).toNatClampNeg)]) (rest := []) (o := 109) C hw (c_X7_adds l hr86) k_X7_adds wM_X7_267 ⟨⟨rfl, rfl⟩, ⟨Nat.le_of_ble_eq_true rfl, Nat.le_of_ble_eq_true rfl⟩⟩ rfl (by decide) rfl rfl rfl hl rfl (Nat.le_of_ble_eq_true rfl) dX7_size_86 ⟨Nat.zero_le _, Nat.zero_le _⟩ (fun H locs hw => ?_)
        refine lv_iinc (v := (y2 + 1)) (lv' := [(2, .int (y2 + 1)), (0, .ref (ad 109)), (1, .int y1)]) hx hb dX7_size_89 hl (k := 2) rfl rfl (by decide) rfl (fun ls hl => ?_)
        refine lv_goto (tgt := 36) hx hb dX7_size_92 (by decide) ?_
        exact ih (y1) ((y2 + 1)) hM hw (lv_sub hl [1, 2, 0] rfl)
      · replace hM := h_f hc hM
        refine lv_aload_n hx hb dX7_size_52 rfl (lv_at hl 0 rfl) ?_
        refine lv_aload_n hx hb dX7_size_53 rfl (lv_at hl 0 rfl) ?_
        refine a_getp (q := 112) (σ := aG ι) (o := 109) (T := TX7) (N := 20) C wU_X7 hw rfl (by decide) rfl 9 (by decide) rfl wF_X7_20 (aG_P rfl rfl) dX7_size_54 ?_
        refine lv_bipush (v := (99 : Int32)) hx hb dX7_size_57 (by decide) ?_
        refine lv_iload_n hx hb dX7_size_59 rfl (lv_at hl 2 rfl) ?_
        refine lv_iadd hx hb dX7_size_60 ?_
        obtain ⟨hi, hM⟩ := h_i hM
        refine a_iald (σ := aG ι) (o := 112) C hw rfl hi rfl dX7_size_61 ?_
        refine lv_iconst (v := (0 : Int32)) hx hb dX7_size_62 (by decide) ?_
        obtain ⟨r63, hr63, hM⟩ := h_b hM
        refine a_callV (σ' := aG r63.2) (v := (some (.int r63.1))) (As := fun ad => [.int (gI ι 112 ((99 : Int32) + y2).toNatClampNeg), .int (0 : Int32)]) (rest := [.ref (ad 109)]) (o := 109) C hw (c_X7_matchOf l hr63) k_X7_matchOf wM_X7_219 ⟨⟨rfl, rfl⟩, ⟨Nat.le_of_ble_eq_true rfl, Nat.le_of_ble_eq_true rfl⟩⟩ rfl (by decide) rfl rfl rfl hl rfl (Nat.le_of_ble_eq_true rfl) dX7_size_63 ⟨Nat.zero_le _, Nat.zero_le _⟩ (fun H locs hw => ?_)
        refine lv_goto (tgt := 86) hx hb dX7_size_66 (by decide) ?_
        obtain ⟨r86, hr86, hM⟩ := h_b hM
        refine a_callV (σ' := aG r86) (v := none) (As := fun ad => [.int r63.1]) (rest := []) (o := 109) C hw (c_X7_adds l hr86) k_X7_adds wM_X7_267 ⟨⟨rfl, rfl⟩, ⟨Nat.le_of_ble_eq_true rfl, Nat.le_of_ble_eq_true rfl⟩⟩ rfl (by decide) rfl rfl rfl hl rfl (Nat.le_of_ble_eq_true rfl) dX7_size_86 ⟨Nat.zero_le _, Nat.zero_le _⟩ (fun H locs hw => ?_)
        refine lv_iinc (v := (y2 + 1)) (lv' := [(2, .int (y2 + 1)), (0, .ref (ad 109)), (1, .int y1)]) hx hb dX7_size_89 hl (k := 2) rfl rfl (by decide) rfl (fun ls hl => ?_)
        refine lv_goto (tgt := 36) hx hb dX7_size_92 (by decide) ?_
        exact ih (y1) ((y2 + 1)) hM hw (lv_sub hl [1, 2, 0] rfl)
theorem k_X7_size : aCal RX7 yX7_size cX7_size 3 (some .long) 1 := ⟨wI_yX7_size, wE_yX7_size, wZ_X7, wC_yX7_size, by decide +kernel⟩
set_option maxHeartbeats 4000000 in
set_option maxRecDepth 100000 in
theorem c_X7_size (l : Launch) {x1 : Int32} {ι : iS} {res : Int64 × iS} (hM : m_X7_size x1 ι = some res) : aM l yX7_size cX7_size 3 (some .long) rm_X7_size (fun ad => [.ref (ad 109), .int x1]) (aG ι) (some (.long res.1)) (aG res.2) := by
  refine aM.of (by decide) (fun _ => Nat.le_of_ble_eq_true rfl) ?_
  intro p e s m args below meth c D dA ad adV A ls C hw hl
  have C : aX p m c cX7_size 3 s args aTs RX7 meth (some .long) := C
  have hx := C.1.1
  have hb := C.1.2.1
  have hml := C.1.2.2.1
  have hown := C.1.2.2.2.1
  have hts := C.1.2.2.2.2
  have hl : lv_has ls 3 [(0, .ref (ad 109)), (1, .int x1)] := hl
  unfold m_X7_size at hM
  refine lv_aload_n hx hb dX7_size_0 rfl (lv_at hl 0 rfl) ?_
  refine lv_iconst (v := (0 : Int32)) hx hb dX7_size_1 (by decide) ?_
  refine a_puti (ty := .int) (σ := aG ι) (o := 109) (T := TX7) (N := 20) (ty0 := tyX7) C wU_X7 tyX7_ok nmX7 hw rfl (by decide) rfl 0 (by decide) rfl wF_X7_42 rfl (by decide +kernel) rfl rfl dX7_size_2 (fun H locs hw => ?_)
  have hw : aW D dA ad adV (aG (pI ι 109 0 (0 : Int32))) A s H locs := hw
  refine lv_aload_n hx hb dX7_size_5 rfl (lv_at hl 0 rfl) ?_
  refine lv_iload_n hx hb dX7_size_6 rfl (lv_at hl 1 rfl) ?_
  refine lv_iconst (v := (0 : Int32)) hx hb dX7_size_7 (by decide) ?_
  refine lv_iconst (v := (3 : Int32)) hx hb dX7_size_8 (by decide) ?_
  obtain ⟨r9, hr9, hM⟩ := h_b hM
  refine a_callS  (σ' := aG r9.2) (v := (some (.int r9.1))) (as := fun ad => [.int x1, .int (0 : Int32), .int (3 : Int32)]) (rest := [.ref (ad 109)]) C hw (c_X7_in l hr9) k_X7_in wM_X7_81 ⟨⟨rfl, rfl⟩, ⟨Nat.le_of_ble_eq_true rfl, Nat.le_of_ble_eq_true rfl⟩⟩ rfl hl rfl (Nat.le_of_ble_eq_true rfl) dX7_size_9 ⟨Nat.zero_le _, Nat.zero_le _⟩ (fun H locs hw => ?_)
  refine lv_if_ne (tgt := 19) hx hb dX7_size_12 (by decide) (fun hc => ?_) (fun hc => ?_)
  · replace hM := h_f hc hM
    refine lv_iconst (v := (0 : Int32)) hx hb dX7_size_19 (by decide) ?_
    refine lv_iconst (v := (1 : Int32)) hx hb dX7_size_20 (by decide) ?_
    refine lv_iconst (v := (1 : Int32)) hx hb dX7_size_21 (by decide) ?_
    obtain ⟨r22, hr22, hM⟩ := h_b hM
    refine a_callV (σ' := aG r22.2) (v := (some (.int r22.1))) (As := fun ad => [.int (0 : Int32), .int (1 : Int32), .int (1 : Int32)]) (rest := []) (o := 109) C hw (c_X7_bad l hr22) k_X7_bad wM_X7_164 ⟨⟨rfl, rfl⟩, ⟨Nat.le_of_ble_eq_true rfl, Nat.le_of_ble_eq_true rfl⟩⟩ rfl (by decide) rfl rfl rfl hl rfl (Nat.le_of_ble_eq_true rfl) dX7_size_22 ⟨Nat.zero_le _, Nat.zero_le _⟩ (fun H locs hw => ?_)
    refine lv_if_eq (tgt := 30) hx hb dX7_size_25 (by decide) (fun hc => ?_) (fun hc => ?_)
    · replace hM := h_t hc hM
      refine lv_aload_n hx hb dX7_size_30 rfl (lv_at hl 0 rfl) ?_
      obtain ⟨r31, hr31, hM⟩ := h_b hM
      refine a_callV (σ' := aG r31) (v := none) (As := fun ad => []) (rest := []) (o := 109) C hw (c_X7_clears l hr31) k_X7_clears wM_X7_264 ⟨⟨rfl, rfl⟩, ⟨Nat.le_of_ble_eq_true rfl, Nat.le_of_ble_eq_true rfl⟩⟩ rfl (by decide) rfl rfl rfl hl rfl (Nat.le_of_ble_eq_true rfl) dX7_size_31 ⟨Nat.zero_le _, Nat.zero_le _⟩ (fun H locs hw => ?_)
      refine lv_iconst (v := (0 : Int32)) hx hb dX7_size_34 (by decide) ?_
      refine lv_istore_n (lv' := [(2, .int (0 : Int32)), (0, .ref (ad 109)), (1, .int x1)]) hx hb dX7_size_35 rfl hl (by decide) rfl (fun ls hl => ?_)
      exact tl_X7_size_36 l C aF (x1) ((0 : Int32)) hM hw (lv_sub hl [1, 2, 0] rfl)
    · replace hM := h_f hc hM
      refine lv_lconst (v := (0 : Int64)) hx hb dX7_size_28 (by decide) ?_
      cases h_e hM
      exact a_lret C hw dX7_size_29
  · replace hM := h_t hc hM
    refine lv_iconst (v := (1 : Int32)) hx hb dX7_size_15 (by decide) ?_
    refine lv_goto (tgt := 20) hx hb dX7_size_16 (by decide) ?_
    refine lv_iconst (v := (1 : Int32)) hx hb dX7_size_20 (by decide) ?_
    refine lv_iconst (v := (1 : Int32)) hx hb dX7_size_21 (by decide) ?_
    obtain ⟨r22, hr22, hM⟩ := h_b hM
    refine a_callV (σ' := aG r22.2) (v := (some (.int r22.1))) (As := fun ad => [.int (1 : Int32), .int (1 : Int32), .int (1 : Int32)]) (rest := []) (o := 109) C hw (c_X7_bad l hr22) k_X7_bad wM_X7_164 ⟨⟨rfl, rfl⟩, ⟨Nat.le_of_ble_eq_true rfl, Nat.le_of_ble_eq_true rfl⟩⟩ rfl (by decide) rfl rfl rfl hl rfl (Nat.le_of_ble_eq_true rfl) dX7_size_22 ⟨Nat.zero_le _, Nat.zero_le _⟩ (fun H locs hw => ?_)
    refine lv_if_eq (tgt := 30) hx hb dX7_size_25 (by decide) (fun hc => ?_) (fun hc => ?_)
    · replace hM := h_t hc hM
      refine lv_aload_n hx hb dX7_size_30 rfl (lv_at hl 0 rfl) ?_
      obtain ⟨r31, hr31, hM⟩ := h_b hM
      refine a_callV (σ' := aG r31) (v := none) (As := fun ad => []) (rest := []) (o := 109) C hw (c_X7_clears l hr31) k_X7_clears wM_X7_264 ⟨⟨rfl, rfl⟩, ⟨Nat.le_of_ble_eq_true rfl, Nat.le_of_ble_eq_true rfl⟩⟩ rfl (by decide) rfl rfl rfl hl rfl (Nat.le_of_ble_eq_true rfl) dX7_size_31 ⟨Nat.zero_le _, Nat.zero_le _⟩ (fun H locs hw => ?_)
      refine lv_iconst (v := (0 : Int32)) hx hb dX7_size_34 (by decide) ?_
      refine lv_istore_n (lv' := [(2, .int (0 : Int32)), (0, .ref (ad 109)), (1, .int x1)]) hx hb dX7_size_35 rfl hl (by decide) rfl (fun ls hl => ?_)
      exact tl_X7_size_36 l C aF (x1) ((0 : Int32)) hM hw (lv_sub hl [1, 2, 0] rfl)
    · replace hM := h_f hc hM
      refine lv_lconst (v := (0 : Int64)) hx hb dX7_size_28 (by decide) ?_
      cases h_e hM
      exact a_lret C hw dX7_size_29
def rm_X7_fairest : Room := { frames := 4, cells := 0, slots := 0, locals := 100 }
set_option maxHeartbeats 4000000 in
set_option maxRecDepth 100000 in
theorem tl_X7_fairest_68 (l : Launch) {p : Program} {e : Env} {s : State} {m : MethodId} {args : Array Value} {below : List Frame} {meth : Method} {c : Code} {D : va_G} {dA : Nat → ClassId} {ad adV : Nat → Nat} {A : Nat → Prop} (C : aX p m c cX7_fairest 11 s args aTs RX7 meth (some .long)) {res : Int64 × iS} {k : Int32 → Int32 → Int32 → Int64 → Int64 → Int32 → Int32 → Int32 → iS → Option (Int64 × iS)} (hk : ∀ (z1 : Int32) (z2 : Int32) (z3 : Int32) (z4 : Int64) (z6 : Int64) (z8 : Int32) (z9 : Int32) (z10 : Int32) {ι : iS}, k z1 z2 z3 z4 z6 z8 z9 z10 ι = some res → ∀ {H : Heap} {locs : List Loc} {ls : Array Slot}, aW D dA ad adV (aG ι) A s H locs → lv_has ls 11 [(0, .ref (ad 109)), (1, .int z1), (2, .int z2), (3, .int z3), (4, .long z4), (6, .long z6), (8, .int z8), (9, .int z9), (10, .int z10)] → W p l e rm_X7_fairest s m args below meth c H locs 0 0 (MQ below (aQ D dA ad (aG res.2) A (some (.long res.1))) args s 0 0 A) (F0 m 93 ls [])) : ∀ (n : Nat) (y1 : Int32) (y2 : Int32) (y3 : Int32) (y4 : Int64) (y6 : Int64) (y8 : Int32) (y9 : Int32) (y10 : Int32) {ι : iS}, l_X7_fairest_68 n y1 y2 y3 y4 y6 y8 y9 y10 ι k = some res → ∀ {H : Heap} {locs : List Loc} {ls : Array Slot}, aW D dA ad adV (aG ι) A s H locs → lv_has ls 11 [(0, .ref (ad 109)), (1, .int y1), (2, .int y2), (3, .int y3), (4, .long y4), (6, .long y6), (8, .int y8), (9, .int y9), (10, .int y10)] → W p l e rm_X7_fairest s m args below meth c H locs 0 0 (MQ below (aQ D dA ad (aG res.2) A (some (.long res.1))) args s 0 0 A) (F0 m 68 ls []) := by
  have hx := C.1.1
  have hb := C.1.2.1
  have hml := C.1.2.2.1
  have hown := C.1.2.2.2.1
  have hts := C.1.2.2.2.2
  intro n
  induction n with
  | zero => intro y1 y2 y3 y4 y6 y8 y9 y10 ι hM; simp [l_X7_fairest_68] at hM
  | succ n ih =>
    intro y1 y2 y3 y4 y6 y8 y9 y10 ι hM H locs ls hw hl
    rw [l_X7_fairest_68] at hM
    refine lv_iload hx hb dX7_fairest_68 (lv_at hl 8 rfl) ?_
    refine lv_bipush (v := (16 : Int32)) hx hb dX7_fairest_70 (by decide) ?_
    refine lv_icmp_ge (tgt := 93) hx hb dX7_fairest_72 (by decide) (fun hc => ?_) (fun hc => ?_)
    · replace hM := h_t hc hM
      exact hk (y1) (y2) (y3) (y4) (y6) (y8) (y9) (y10) hM hw (lv_sub hl [0, 1, 2, 3, 4, 5, 6, 7, 8] rfl)
    · replace hM := h_f hc hM
      refine lv_iload hx hb dX7_fairest_75 (lv_at hl 7 rfl) ?_
      refine lv_iload hx hb dX7_fairest_77 (lv_at hl 6 rfl) ?_
      refine lv_iload hx hb dX7_fairest_79 (lv_at hl 8 rfl) ?_
      refine lv_ishr hx hb dX7_fairest_81 ?_
      refine lv_iconst (v := (1 : Int32)) hx hb dX7_fairest_82 (by decide) ?_
      refine lv_iand hx hb dX7_fairest_83 ?_
      refine lv_iadd hx hb dX7_fairest_84 ?_
      refine lv_istore (lv' := [(9, .int (y9 + ((y8 >>> (y10 &&& 31)) &&& (1 : Int32)))), (0, .ref (ad 109)), (1, .int y1), (2, .int y2), (3, .int y3), (4, .long y4), (6, .long y6), (8, .int y8), (10, .int y10)]) hx hb dX7_fairest_85 hl (by decide) rfl (fun ls hl => ?_)
      refine lv_iinc (v := (y10 + 1)) (lv' := [(10, .int (y10 + 1)), (9, .int (y9 + ((y8 >>> (y10 &&& 31)) &&& (1 : Int32)))), (0, .ref (ad 109)), (1, .int y1), (2, .int y2), (3, .int y3), (4, .long y4), (6, .long y6), (8, .int y8)]) hx hb dX7_fairest_87 hl (k := 8) rfl rfl (by decide) rfl (fun ls hl => ?_)
      refine lv_goto (tgt := 68) hx hb dX7_fairest_90 (by decide) ?_
      exact ih (y1) (y2) (y3) (y4) (y6) (y8) ((y9 + ((y8 >>> (y10 &&& 31)) &&& (1 : Int32)))) ((y10 + 1)) hM hw (lv_sub hl [2, 3, 4, 5, 6, 7, 8, 1, 0] rfl)
set_option maxHeartbeats 4000000 in
set_option maxRecDepth 100000 in
theorem tl_X7_fairest_111 (l : Launch) {p : Program} {e : Env} {s : State} {m : MethodId} {args : Array Value} {below : List Frame} {meth : Method} {c : Code} {D : va_G} {dA : Nat → ClassId} {ad adV : Nat → Nat} {A : Nat → Prop} (C : aX p m c cX7_fairest 11 s args aTs RX7 meth (some .long)) {res : Int64 × iS} {k : Int32 → Int32 → Int32 → Int64 → Int64 → Int32 → Int32 → Int32 → iS → Option (Int64 × iS)} (hk : ∀ (z1 : Int32) (z2 : Int32) (z3 : Int32) (z4 : Int64) (z6 : Int64) (z8 : Int32) (z9 : Int32) (z10 : Int32) {ι : iS}, k z1 z2 z3 z4 z6 z8 z9 z10 ι = some res → ∀ {H : Heap} {locs : List Loc} {ls : Array Slot}, aW D dA ad adV (aG ι) A s H locs → lv_has ls 11 [(0, .ref (ad 109)), (1, .int z1), (2, .int z2), (3, .int z3), (4, .long z4), (6, .long z6), (8, .int z8), (9, .int z9), (10, .int z10)] → W p l e rm_X7_fairest s m args below meth c H locs 0 0 (MQ below (aQ D dA ad (aG res.2) A (some (.long res.1))) args s 0 0 A) (F0 m 153 ls [])) : ∀ (n : Nat) (y1 : Int32) (y2 : Int32) (y3 : Int32) (y4 : Int64) (y6 : Int64) (y8 : Int32) (y9 : Int32) (y10 : Int32) {ι : iS}, l_X7_fairest_111 n y1 y2 y3 y4 y6 y8 y9 y10 ι k = some res → ∀ {H : Heap} {locs : List Loc} {ls : Array Slot}, aW D dA ad adV (aG ι) A s H locs → lv_has ls 11 [(0, .ref (ad 109)), (1, .int y1), (2, .int y2), (3, .int y3), (4, .long y4), (6, .long y6), (8, .int y8), (9, .int y9), (10, .int y10)] → W p l e rm_X7_fairest s m args below meth c H locs 0 0 (MQ below (aQ D dA ad (aG res.2) A (some (.long res.1))) args s 0 0 A) (F0 m 111 ls []) := by
  have hx := C.1.1
  have hb := C.1.2.1
  have hml := C.1.2.2.1
  have hown := C.1.2.2.2.1
  have hts := C.1.2.2.2.2
  intro n
  induction n with
  | zero => intro y1 y2 y3 y4 y6 y8 y9 y10 ι hM; simp [l_X7_fairest_111] at hM
  | succ n ih =>
    intro y1 y2 y3 y4 y6 y8 y9 y10 ι hM H locs ls hw hl
    rw [l_X7_fairest_111] at hM
    refine lv_iload hx hb dX7_fairest_111 (lv_at hl 8 rfl) ?_
    refine lv_aload_n hx hb dX7_fairest_113 rfl (lv_at hl 0 rfl) ?_
    obtain ⟨r114, hr114, hM⟩ := h_b hM
    refine a_callV (σ' := aG r114.2) (v := (some (.int r114.1))) (As := fun ad => []) (rest := [.int y10]) (o := 109) C hw (c_X7_persons l hr114) k_X7_persons wM_X7_180 ⟨⟨rfl, rfl⟩, ⟨Nat.le_of_ble_eq_true rfl, Nat.le_of_ble_eq_true rfl⟩⟩ rfl (by decide) rfl rfl rfl hl rfl (Nat.le_of_ble_eq_true rfl) dX7_fairest_114 ⟨Nat.zero_le _, Nat.zero_le _⟩ (fun H locs hw => ?_)
    refine lv_icmp_ge (tgt := 153) hx hb dX7_fairest_117 (by decide) (fun hc => ?_) (fun hc => ?_)
    · replace hM := h_t hc hM
      exact hk (y1) (y2) (y3) (y4) (y6) (y8) (y9) (y10) hM hw (lv_sub hl [0, 1, 2, 3, 4, 5, 6, 7, 8] rfl)
    · replace hM := h_f hc hM
      refine lv_iload hx hb dX7_fairest_120 (lv_at hl 8 rfl) ?_
      refine lv_if_eq (tgt := 136) hx hb dX7_fairest_122 (by decide) (fun hc => ?_) (fun hc => ?_)
      · replace hM := h_t hc hM
        refine lv_aload_n hx hb dX7_fairest_136 rfl (lv_at hl 0 rfl) ?_
        refine lv_aload_n hx hb dX7_fairest_137 rfl (lv_at hl 0 rfl) ?_
        refine lv_iload hx hb dX7_fairest_138 (lv_at hl 8 rfl) ?_
        refine lv_iconst (v := (0 : Int32)) hx hb dX7_fairest_140 (by decide) ?_
        obtain ⟨r141, hr141, hM⟩ := h_b hM
        refine a_callV (σ' := aG r141.2) (v := (some (.int r141.1))) (As := fun ad => [.int y10, .int (0 : Int32)]) (rest := [.ref (ad 109)]) (o := 109) C hw (c_X7_matchOf l hr141) k_X7_matchOf wM_X7_219 ⟨⟨rfl, rfl⟩, ⟨Nat.le_of_ble_eq_true rfl, Nat.le_of_ble_eq_true rfl⟩⟩ rfl (by decide) rfl rfl rfl hl rfl (Nat.le_of_ble_eq_true rfl) dX7_fairest_141 ⟨Nat.zero_le _, Nat.zero_le _⟩ (fun H locs hw => ?_)
        obtain ⟨r144, hr144, hM⟩ := h_b hM
        refine a_callV (σ' := aG r144) (v := none) (As := fun ad => [.int r141.1]) (rest := []) (o := 109) C hw (c_X7_adds l hr144) k_X7_adds wM_X7_267 ⟨⟨rfl, rfl⟩, ⟨Nat.le_of_ble_eq_true rfl, Nat.le_of_ble_eq_true rfl⟩⟩ rfl (by decide) rfl rfl rfl hl rfl (Nat.le_of_ble_eq_true rfl) dX7_fairest_144 ⟨Nat.zero_le _, Nat.zero_le _⟩ (fun H locs hw => ?_)
        refine lv_iinc (v := (y10 + 1)) (lv' := [(10, .int (y10 + 1)), (0, .ref (ad 109)), (1, .int y1), (2, .int y2), (3, .int y3), (4, .long y4), (6, .long y6), (8, .int y8), (9, .int y9)]) hx hb dX7_fairest_147 hl (k := 8) rfl rfl (by decide) rfl (fun ls hl => ?_)
        refine lv_goto (tgt := 111) hx hb dX7_fairest_150 (by decide) ?_
        exact ih (y1) (y2) (y3) (y4) (y6) (y8) (y9) ((y10 + 1)) hM hw (lv_sub hl [1, 2, 3, 4, 5, 6, 7, 8, 0] rfl)
      · replace hM := h_f hc hM
        refine lv_iload hx hb dX7_fairest_125 (lv_at hl 6 rfl) ?_
        refine lv_iload hx hb dX7_fairest_127 (lv_at hl 8 rfl) ?_
        refine lv_ishr hx hb dX7_fairest_129 ?_
        refine lv_iconst (v := (1 : Int32)) hx hb dX7_fairest_130 (by decide) ?_
        refine lv_iand hx hb dX7_fairest_131 ?_
        refine lv_iconst (v := (1 : Int32)) hx hb dX7_fairest_132 (by decide) ?_
        refine lv_icmp_ne (tgt := 147) hx hb dX7_fairest_133 (by decide) (fun hc => ?_) (fun hc => ?_)
        · replace hM := h_f hc hM
          refine lv_iinc (v := (y10 + 1)) (lv' := [(10, .int (y10 + 1)), (0, .ref (ad 109)), (1, .int y1), (2, .int y2), (3, .int y3), (4, .long y4), (6, .long y6), (8, .int y8), (9, .int y9)]) hx hb dX7_fairest_147 hl (k := 8) rfl rfl (by decide) rfl (fun ls hl => ?_)
          refine lv_goto (tgt := 111) hx hb dX7_fairest_150 (by decide) ?_
          exact ih (y1) (y2) (y3) (y4) (y6) (y8) (y9) ((y10 + 1)) hM hw (lv_sub hl [1, 2, 3, 4, 5, 6, 7, 8, 0] rfl)
        · replace hM := h_t hc hM
          refine lv_aload_n hx hb dX7_fairest_136 rfl (lv_at hl 0 rfl) ?_
          refine lv_aload_n hx hb dX7_fairest_137 rfl (lv_at hl 0 rfl) ?_
          refine lv_iload hx hb dX7_fairest_138 (lv_at hl 8 rfl) ?_
          refine lv_iconst (v := (0 : Int32)) hx hb dX7_fairest_140 (by decide) ?_
          obtain ⟨r141, hr141, hM⟩ := h_b hM
          refine a_callV (σ' := aG r141.2) (v := (some (.int r141.1))) (As := fun ad => [.int y10, .int (0 : Int32)]) (rest := [.ref (ad 109)]) (o := 109) C hw (c_X7_matchOf l hr141) k_X7_matchOf wM_X7_219 ⟨⟨rfl, rfl⟩, ⟨Nat.le_of_ble_eq_true rfl, Nat.le_of_ble_eq_true rfl⟩⟩ rfl (by decide) rfl rfl rfl hl rfl (Nat.le_of_ble_eq_true rfl) dX7_fairest_141 ⟨Nat.zero_le _, Nat.zero_le _⟩ (fun H locs hw => ?_)
          obtain ⟨r144, hr144, hM⟩ := h_b hM
          refine a_callV (σ' := aG r144) (v := none) (As := fun ad => [.int r141.1]) (rest := []) (o := 109) C hw (c_X7_adds l hr144) k_X7_adds wM_X7_267 ⟨⟨rfl, rfl⟩, ⟨Nat.le_of_ble_eq_true rfl, Nat.le_of_ble_eq_true rfl⟩⟩ rfl (by decide) rfl rfl rfl hl rfl (Nat.le_of_ble_eq_true rfl) dX7_fairest_144 ⟨Nat.zero_le _, Nat.zero_le _⟩ (fun H locs hw => ?_)
          refine lv_iinc (v := (y10 + 1)) (lv' := [(10, .int (y10 + 1)), (0, .ref (ad 109)), (1, .int y1), (2, .int y2), (3, .int y3), (4, .long y4), (6, .long y6), (8, .int y8), (9, .int y9)]) hx hb dX7_fairest_147 hl (k := 8) rfl rfl (by decide) rfl (fun ls hl => ?_)
          refine lv_goto (tgt := 111) hx hb dX7_fairest_150 (by decide) ?_
          exact ih (y1) (y2) (y3) (y4) (y6) (y8) (y9) ((y10 + 1)) hM hw (lv_sub hl [1, 2, 3, 4, 5, 6, 7, 8, 0] rfl)
set_option maxHeartbeats 4000000 in
set_option maxRecDepth 100000 in
theorem tl_X7_fairest_51 (l : Launch) {p : Program} {e : Env} {s : State} {m : MethodId} {args : Array Value} {below : List Frame} {meth : Method} {c : Code} {D : va_G} {dA : Nat → ClassId} {ad adV : Nat → Nat} {A : Nat → Prop} (C : aX p m c cX7_fairest 11 s args aTs RX7 meth (some .long)) {res : Int64 × iS} : ∀ (n : Nat) (y1 : Int32) (y2 : Int32) (y3 : Int32) (y4 : Int64) (y6 : Int64) (y8 : Int32) {ι : iS}, l_X7_fairest_51 n y1 y2 y3 y4 y6 y8 ι = some res → ∀ {H : Heap} {locs : List Loc} {ls : Array Slot}, aW D dA ad adV (aG ι) A s H locs → lv_has ls 11 [(0, .ref (ad 109)), (1, .int y1), (2, .int y2), (3, .int y3), (4, .long y4), (6, .long y6), (8, .int y8)] → W p l e rm_X7_fairest s m args below meth c H locs 0 0 (MQ below (aQ D dA ad (aG res.2) A (some (.long res.1))) args s 0 0 A) (F0 m 51 ls []) := by
  have hx := C.1.1
  have hb := C.1.2.1
  have hml := C.1.2.2.1
  have hown := C.1.2.2.2.1
  have hts := C.1.2.2.2.2
  intro n
  induction n with
  | zero => intro y1 y2 y3 y4 y6 y8 ι hM; simp [l_X7_fairest_51] at hM
  | succ n ih =>
    intro y1 y2 y3 y4 y6 y8 ι hM H locs ls hw hl
    rw [l_X7_fairest_51] at hM
    refine lv_iload hx hb dX7_fairest_51 (lv_at hl 6 rfl) ?_
    refine lv_iconst (v := (1 : Int32)) hx hb dX7_fairest_53 (by decide) ?_
    refine lv_aload_n hx hb dX7_fairest_54 rfl (lv_at hl 0 rfl) ?_
    obtain ⟨r55, hr55, hM⟩ := h_b hM
    refine a_callV (σ' := aG r55.2) (v := (some (.int r55.1))) (As := fun ad => []) (rest := [.int (1 : Int32), .int y8]) (o := 109) C hw (c_X7_persons l hr55) k_X7_persons wM_X7_180 ⟨⟨rfl, rfl⟩, ⟨Nat.le_of_ble_eq_true rfl, Nat.le_of_ble_eq_true rfl⟩⟩ rfl (by decide) rfl rfl rfl hl rfl (Nat.le_of_ble_eq_true rfl) dX7_fairest_55 ⟨Nat.zero_le _, Nat.zero_le _⟩ (fun H locs hw => ?_)
    refine lv_ishl hx hb dX7_fairest_58 ?_
    refine lv_icmp_ge (tgt := 224) hx hb dX7_fairest_59 (by decide) (fun hc => ?_) (fun hc => ?_)
    · replace hM := h_t hc hM
      refine lv_iload_n hx hb dX7_fairest_224 rfl (lv_at hl 3 rfl) ?_
      refine lv_iconst (v := (-1 : Int32)) hx hb dX7_fairest_225 (by decide) ?_
      refine lv_icmp_ne (tgt := 235) hx hb dX7_fairest_226 (by decide) (fun hc => ?_) (fun hc => ?_)
      · replace hM := h_f hc hM
        refine lv_iload_n hx hb dX7_fairest_235 rfl (lv_at hl 2 rfl) ?_
        refine lv_if_ne (tgt := 244) hx hb dX7_fairest_236 (by decide) (fun hc => ?_) (fun hc => ?_)
        · replace hM := h_f hc hM
          refine lv_lload hx hb dX7_fairest_244 (lv_at hl 4 rfl) ?_
          refine lv_lload hx hb dX7_fairest_246 (lv_at hl 5 rfl) ?_
          refine lv_iload_n hx hb dX7_fairest_248 rfl (lv_at hl 2 rfl) ?_
          refine lv_iconst (v := (1 : Int32)) hx hb dX7_fairest_249 (by decide) ?_
          refine lv_isub hx hb dX7_fairest_250 ?_
          obtain ⟨r251, hr251, hM⟩ := h_b hM
          refine a_callS  (σ' := aG r251.2) (v := (some (.long r251.1))) (as := fun ad => [.long y4, .long y6, .int (y2 - (1 : Int32))]) (rest := []) C hw (c_X7_terms l hr251) k_X7_terms wM_X7_254 ⟨⟨rfl, rfl⟩, ⟨Nat.le_of_ble_eq_true rfl, Nat.le_of_ble_eq_true rfl⟩⟩ rfl hl rfl (Nat.le_of_ble_eq_true rfl) dX7_fairest_251 ⟨Nat.zero_le _, Nat.zero_le _⟩ (fun H locs hw => ?_)
          cases h_e hM
          exact a_lret C hw dX7_fairest_254
        · replace hM := h_t hc hM
          refine lv_iload_n hx hb dX7_fairest_239 rfl (lv_at hl 3 rfl) ?_
          refine lv_i2l hx hb dX7_fairest_240 rfl ?_
          refine lv_goto (tgt := 254) hx hb dX7_fairest_241 (by decide) ?_
          cases h_e hM
          exact a_lret C hw dX7_fairest_254
      · replace hM := h_t hc hM
        refine lv_ldc2 (v := (-1 : Int64)) hx hb hown (hts _ wQ_X7_270) dX7_fairest_229 ?_
        refine lv_goto (tgt := 254) hx hb dX7_fairest_232 (by decide) ?_
        cases h_e hM
        exact a_lret C hw dX7_fairest_254
    · replace hM := h_f hc hM
      refine lv_iconst (v := (0 : Int32)) hx hb dX7_fairest_62 (by decide) ?_
      refine lv_istore (lv' := [(9, .int (0 : Int32)), (0, .ref (ad 109)), (1, .int y1), (2, .int y2), (3, .int y3), (4, .long y4), (6, .long y6), (8, .int y8)]) hx hb dX7_fairest_63 hl (by decide) rfl (fun ls hl => ?_)
      refine lv_iconst (v := (1 : Int32)) hx hb dX7_fairest_65 (by decide) ?_
      refine lv_istore (lv' := [(10, .int (1 : Int32)), (9, .int (0 : Int32)), (0, .ref (ad 109)), (1, .int y1), (2, .int y2), (3, .int y3), (4, .long y4), (6, .long y6), (8, .int y8)]) hx hb dX7_fairest_66 hl (by decide) rfl (fun ls hl => ?_)
      refine tl_X7_fairest_68 l C (k := (fun z68_1 z68_2 z68_3 z68_4 z68_6 z68_8 z68_9 z68_10 ι68 => if z68_9 = (z68_1 - (1 : Int32)) then Option.bind (m_X7_clears ι68) fun r105 => l_X7_fairest_111 aF z68_1 z68_2 z68_3 z68_4 z68_6 z68_8 z68_9 (0 : Int32) r105 (fun z111_1 z111_2 z111_3 z111_4 z111_6 z111_8 z111_9 z111_10 ι111 => if (lg_cmp (gJ ι111 109 19) (0 : Int64)) = 0 then if z111_3 = (-1 : Int32) then l_X7_fairest_51 n z111_1 z111_2 z111_8 ((gJ (pJ ι111 109 19 (1 : Int64)) 109 18) * (gJ (pJ ι111 109 19 (1 : Int64)) 109 18)) (gJ (pJ ι111 109 19 (1 : Int64)) 109 19) (z111_8 + 2) (pJ ι111 109 19 (1 : Int64)) else if 0 < (lg_cmp (((gJ (pJ ι111 109 19 (1 : Int64)) 109 18) * (gJ (pJ ι111 109 19 (1 : Int64)) 109 18)) * z111_6) (z111_4 * (gJ (pJ ι111 109 19 (1 : Int64)) 109 19))) then l_X7_fairest_51 n z111_1 z111_2 z111_8 ((gJ (pJ ι111 109 19 (1 : Int64)) 109 18) * (gJ (pJ ι111 109 19 (1 : Int64)) 109 18)) (gJ (pJ ι111 109 19 (1 : Int64)) 109 19) (z111_8 + 2) (pJ ι111 109 19 (1 : Int64)) else l_X7_fairest_51 n z111_1 z111_2 z111_3 z111_4 z111_6 (z111_8 + 2) (pJ ι111 109 19 (1 : Int64)) else if z111_3 = (-1 : Int32) then l_X7_fairest_51 n z111_1 z111_2 z111_8 ((gJ ι111 109 18) * (gJ ι111 109 18)) (gJ ι111 109 19) (z111_8 + 2) ι111 else if 0 < (lg_cmp (((gJ ι111 109 18) * (gJ ι111 109 18)) * z111_6) (z111_4 * (gJ ι111 109 19))) then l_X7_fairest_51 n z111_1 z111_2 z111_8 ((gJ ι111 109 18) * (gJ ι111 109 18)) (gJ ι111 109 19) (z111_8 + 2) ι111 else l_X7_fairest_51 n z111_1 z111_2 z111_3 z111_4 z111_6 (z111_8 + 2) ι111) else l_X7_fairest_51 n z68_1 z68_2 z68_3 z68_4 z68_6 (z68_8 + 2) ι68)) ?_ aF (y1) (y2) (y3) (y4) (y6) (y8) ((0 : Int32)) ((1 : Int32)) hM hw (lv_sub hl [2, 3, 4, 5, 6, 7, 8, 1, 0] rfl)
      intro z68_1 z68_2 z68_3 z68_4 z68_6 z68_8 z68_9 z68_10 ι68 hM H locs ls hw hl
      replace hM : (if z68_9 = (z68_1 - (1 : Int32)) then Option.bind (m_X7_clears ι68) fun r105 => l_X7_fairest_111 aF z68_1 z68_2 z68_3 z68_4 z68_6 z68_8 z68_9 (0 : Int32) r105 (fun z111_1 z111_2 z111_3 z111_4 z111_6 z111_8 z111_9 z111_10 ι111 => if (lg_cmp (gJ ι111 109 19) (0 : Int64)) = 0 then if z111_3 = (-1 : Int32) then l_X7_fairest_51 n z111_1 z111_2 z111_8 ((gJ (pJ ι111 109 19 (1 : Int64)) 109 18) * (gJ (pJ ι111 109 19 (1 : Int64)) 109 18)) (gJ (pJ ι111 109 19 (1 : Int64)) 109 19) (z111_8 + 2) (pJ ι111 109 19 (1 : Int64)) else if 0 < (lg_cmp (((gJ (pJ ι111 109 19 (1 : Int64)) 109 18) * (gJ (pJ ι111 109 19 (1 : Int64)) 109 18)) * z111_6) (z111_4 * (gJ (pJ ι111 109 19 (1 : Int64)) 109 19))) then l_X7_fairest_51 n z111_1 z111_2 z111_8 ((gJ (pJ ι111 109 19 (1 : Int64)) 109 18) * (gJ (pJ ι111 109 19 (1 : Int64)) 109 18)) (gJ (pJ ι111 109 19 (1 : Int64)) 109 19) (z111_8 + 2) (pJ ι111 109 19 (1 : Int64)) else l_X7_fairest_51 n z111_1 z111_2 z111_3 z111_4 z111_6 (z111_8 + 2) (pJ ι111 109 19 (1 : Int64)) else if z111_3 = (-1 : Int32) then l_X7_fairest_51 n z111_1 z111_2 z111_8 ((gJ ι111 109 18) * (gJ ι111 109 18)) (gJ ι111 109 19) (z111_8 + 2) ι111 else if 0 < (lg_cmp (((gJ ι111 109 18) * (gJ ι111 109 18)) * z111_6) (z111_4 * (gJ ι111 109 19))) then l_X7_fairest_51 n z111_1 z111_2 z111_8 ((gJ ι111 109 18) * (gJ ι111 109 18)) (gJ ι111 109 19) (z111_8 + 2) ι111 else l_X7_fairest_51 n z111_1 z111_2 z111_3 z111_4 z111_6 (z111_8 + 2) ι111) else l_X7_fairest_51 n z68_1 z68_2 z68_3 z68_4 z68_6 (z68_8 + 2) ι68) = some res := hM
      refine lv_iload hx hb dX7_fairest_93 (lv_at hl 7 rfl) ?_
      refine lv_iload_n hx hb dX7_fairest_95 rfl (lv_at hl 1 rfl) ?_
      refine lv_iconst (v := (1 : Int32)) hx hb dX7_fairest_96 (by decide) ?_
      refine lv_isub hx hb dX7_fairest_97 ?_
      refine lv_icmp_eq (tgt := 104) hx hb dX7_fairest_98 (by decide) (fun hc => ?_) (fun hc => ?_)
      · replace hM := h_t hc hM
        refine lv_aload_n hx hb dX7_fairest_104 rfl (lv_at hl 0 rfl) ?_
        obtain ⟨r105, hr105, hM⟩ := h_b hM
        refine a_callV (σ' := aG r105) (v := none) (As := fun ad => []) (rest := []) (o := 109) C hw (c_X7_clears l hr105) k_X7_clears wM_X7_264 ⟨⟨rfl, rfl⟩, ⟨Nat.le_of_ble_eq_true rfl, Nat.le_of_ble_eq_true rfl⟩⟩ rfl (by decide) rfl rfl rfl hl rfl (Nat.le_of_ble_eq_true rfl) dX7_fairest_105 ⟨Nat.zero_le _, Nat.zero_le _⟩ (fun H locs hw => ?_)
        refine lv_iconst (v := (0 : Int32)) hx hb dX7_fairest_108 (by decide) ?_
        refine lv_istore (lv' := [(10, .int (0 : Int32)), (0, .ref (ad 109)), (1, .int z68_1), (2, .int z68_2), (3, .int z68_3), (4, .long z68_4), (6, .long z68_6), (8, .int z68_8), (9, .int z68_9)]) hx hb dX7_fairest_109 hl (by decide) rfl (fun ls hl => ?_)
        refine tl_X7_fairest_111 l C (k := (fun z111_1 z111_2 z111_3 z111_4 z111_6 z111_8 z111_9 z111_10 ι111 => if (lg_cmp (gJ ι111 109 19) (0 : Int64)) = 0 then if z111_3 = (-1 : Int32) then l_X7_fairest_51 n z111_1 z111_2 z111_8 ((gJ (pJ ι111 109 19 (1 : Int64)) 109 18) * (gJ (pJ ι111 109 19 (1 : Int64)) 109 18)) (gJ (pJ ι111 109 19 (1 : Int64)) 109 19) (z111_8 + 2) (pJ ι111 109 19 (1 : Int64)) else if 0 < (lg_cmp (((gJ (pJ ι111 109 19 (1 : Int64)) 109 18) * (gJ (pJ ι111 109 19 (1 : Int64)) 109 18)) * z111_6) (z111_4 * (gJ (pJ ι111 109 19 (1 : Int64)) 109 19))) then l_X7_fairest_51 n z111_1 z111_2 z111_8 ((gJ (pJ ι111 109 19 (1 : Int64)) 109 18) * (gJ (pJ ι111 109 19 (1 : Int64)) 109 18)) (gJ (pJ ι111 109 19 (1 : Int64)) 109 19) (z111_8 + 2) (pJ ι111 109 19 (1 : Int64)) else l_X7_fairest_51 n z111_1 z111_2 z111_3 z111_4 z111_6 (z111_8 + 2) (pJ ι111 109 19 (1 : Int64)) else if z111_3 = (-1 : Int32) then l_X7_fairest_51 n z111_1 z111_2 z111_8 ((gJ ι111 109 18) * (gJ ι111 109 18)) (gJ ι111 109 19) (z111_8 + 2) ι111 else if 0 < (lg_cmp (((gJ ι111 109 18) * (gJ ι111 109 18)) * z111_6) (z111_4 * (gJ ι111 109 19))) then l_X7_fairest_51 n z111_1 z111_2 z111_8 ((gJ ι111 109 18) * (gJ ι111 109 18)) (gJ ι111 109 19) (z111_8 + 2) ι111 else l_X7_fairest_51 n z111_1 z111_2 z111_3 z111_4 z111_6 (z111_8 + 2) ι111)) ?_ aF (z68_1) (z68_2) (z68_3) (z68_4) (z68_6) (z68_8) (z68_9) ((0 : Int32)) hM hw (lv_sub hl [1, 2, 3, 4, 5, 6, 7, 8, 0] rfl)
        intro z111_1 z111_2 z111_3 z111_4 z111_6 z111_8 z111_9 z111_10 ι111 hM H locs ls hw hl
        replace hM : (if (lg_cmp (gJ ι111 109 19) (0 : Int64)) = 0 then if z111_3 = (-1 : Int32) then l_X7_fairest_51 n z111_1 z111_2 z111_8 ((gJ (pJ ι111 109 19 (1 : Int64)) 109 18) * (gJ (pJ ι111 109 19 (1 : Int64)) 109 18)) (gJ (pJ ι111 109 19 (1 : Int64)) 109 19) (z111_8 + 2) (pJ ι111 109 19 (1 : Int64)) else if 0 < (lg_cmp (((gJ (pJ ι111 109 19 (1 : Int64)) 109 18) * (gJ (pJ ι111 109 19 (1 : Int64)) 109 18)) * z111_6) (z111_4 * (gJ (pJ ι111 109 19 (1 : Int64)) 109 19))) then l_X7_fairest_51 n z111_1 z111_2 z111_8 ((gJ (pJ ι111 109 19 (1 : Int64)) 109 18) * (gJ (pJ ι111 109 19 (1 : Int64)) 109 18)) (gJ (pJ ι111 109 19 (1 : Int64)) 109 19) (z111_8 + 2) (pJ ι111 109 19 (1 : Int64)) else l_X7_fairest_51 n z111_1 z111_2 z111_3 z111_4 z111_6 (z111_8 + 2) (pJ ι111 109 19 (1 : Int64)) else if z111_3 = (-1 : Int32) then l_X7_fairest_51 n z111_1 z111_2 z111_8 ((gJ ι111 109 18) * (gJ ι111 109 18)) (gJ ι111 109 19) (z111_8 + 2) ι111 else if 0 < (lg_cmp (((gJ ι111 109 18) * (gJ ι111 109 18)) * z111_6) (z111_4 * (gJ ι111 109 19))) then l_X7_fairest_51 n z111_1 z111_2 z111_8 ((gJ ι111 109 18) * (gJ ι111 109 18)) (gJ ι111 109 19) (z111_8 + 2) ι111 else l_X7_fairest_51 n z111_1 z111_2 z111_3 z111_4 z111_6 (z111_8 + 2) ι111) = some res := hM
        refine lv_aload_n hx hb dX7_fairest_153 rfl (lv_at hl 0 rfl) ?_
        refine a_getj (σ := aG ι111) (o := 109) (T := TX7) (N := 20) C wU_X7 hw rfl (by decide) rfl 19 (by decide) rfl wF_X7_261 dX7_fairest_154 ?_
        refine lv_lconst (v := (0 : Int64)) hx hb dX7_fairest_157 (by decide) ?_
        refine W.lcmp hx hb dX7_fairest_158 ?_
        refine lv_if_ne (tgt := 167) hx hb dX7_fairest_159 (by decide) (fun hc => ?_) (fun hc => ?_)
        · replace hM := h_f hc hM
          refine lv_iload_n hx hb dX7_fairest_167 rfl (lv_at hl 3 rfl) ?_
          refine lv_iconst (v := (-1 : Int32)) hx hb dX7_fairest_168 (by decide) ?_
          refine lv_icmp_eq (tgt := 198) hx hb dX7_fairest_169 (by decide) (fun hc => ?_) (fun hc => ?_)
          · replace hM := h_t hc hM
            refine lv_iload hx hb dX7_fairest_198 (lv_at hl 6 rfl) ?_
            refine lv_istore_n (lv' := [(3, .int z111_8), (0, .ref (ad 109)), (1, .int z111_1), (2, .int z111_2), (4, .long z111_4), (6, .long z111_6), (8, .int z111_8), (9, .int z111_9), (10, .int z111_10)]) hx hb dX7_fairest_200 rfl hl (by decide) rfl (fun ls hl => ?_)
            refine lv_aload_n hx hb dX7_fairest_201 rfl (lv_at hl 1 rfl) ?_
            refine a_getj (σ := aG ι111) (o := 109) (T := TX7) (N := 20) C wU_X7 hw rfl (by decide) rfl 18 (by decide) rfl wF_X7_258 dX7_fairest_202 ?_
            refine lv_aload_n hx hb dX7_fairest_205 rfl (lv_at hl 1 rfl) ?_
            refine a_getj (σ := aG ι111) (o := 109) (T := TX7) (N := 20) C wU_X7 hw rfl (by decide) rfl 18 (by decide) rfl wF_X7_258 dX7_fairest_206 ?_
            refine lv_lmul hx hb dX7_fairest_209 ?_
            refine lv_lstore (lv' := [(4, .long ((gJ ι111 109 18) * (gJ ι111 109 18))), (3, .int z111_8), (0, .ref (ad 109)), (1, .int z111_1), (2, .int z111_2), (6, .long z111_6), (8, .int z111_8), (9, .int z111_9), (10, .int z111_10)]) hx hb dX7_fairest_210 hl (by decide) rfl (fun ls hl => ?_)
            refine lv_aload_n hx hb dX7_fairest_212 rfl (lv_at hl 2 rfl) ?_
            refine a_getj (σ := aG ι111) (o := 109) (T := TX7) (N := 20) C wU_X7 hw rfl (by decide) rfl 19 (by decide) rfl wF_X7_261 dX7_fairest_213 ?_
            refine lv_lstore (lv' := [(6, .long (gJ ι111 109 19)), (4, .long ((gJ ι111 109 18) * (gJ ι111 109 18))), (3, .int z111_8), (0, .ref (ad 109)), (1, .int z111_1), (2, .int z111_2), (8, .int z111_8), (9, .int z111_9), (10, .int z111_10)]) hx hb dX7_fairest_216 hl (by decide) rfl (fun ls hl => ?_)
            refine lv_iinc (v := (z111_8 + 2)) (lv' := [(8, .int (z111_8 + 2)), (6, .long (gJ ι111 109 19)), (4, .long ((gJ ι111 109 18) * (gJ ι111 109 18))), (3, .int z111_8), (0, .ref (ad 109)), (1, .int z111_1), (2, .int z111_2), (9, .int z111_9), (10, .int z111_10)]) hx hb dX7_fairest_218 hl (k := 6) rfl rfl (by decide) rfl (fun ls hl => ?_)
            refine lv_goto (tgt := 51) hx hb dX7_fairest_221 (by decide) ?_
            exact ih (z111_1) (z111_2) (z111_8) (((gJ ι111 109 18) * (gJ ι111 109 18))) ((gJ ι111 109 19)) ((z111_8 + 2)) hM hw (lv_sub hl [4, 5, 6, 3, 2, 1, 0] rfl)
          · replace hM := h_f hc hM
            refine lv_aload_n hx hb dX7_fairest_172 rfl (lv_at hl 0 rfl) ?_
            refine a_getj (σ := aG ι111) (o := 109) (T := TX7) (N := 20) C wU_X7 hw rfl (by decide) rfl 18 (by decide) rfl wF_X7_258 dX7_fairest_173 ?_
            refine lv_aload_n hx hb dX7_fairest_176 rfl (lv_at hl 0 rfl) ?_
            refine a_getj (σ := aG ι111) (o := 109) (T := TX7) (N := 20) C wU_X7 hw rfl (by decide) rfl 18 (by decide) rfl wF_X7_258 dX7_fairest_177 ?_
            refine lv_lmul hx hb dX7_fairest_180 ?_
            refine lv_lload hx hb dX7_fairest_181 (lv_at hl 5 rfl) ?_
            refine lv_lmul hx hb dX7_fairest_183 ?_
            refine lv_lload hx hb dX7_fairest_184 (lv_at hl 4 rfl) ?_
            refine lv_aload_n hx hb dX7_fairest_186 rfl (lv_at hl 0 rfl) ?_
            refine a_getj (σ := aG ι111) (o := 109) (T := TX7) (N := 20) C wU_X7 hw rfl (by decide) rfl 19 (by decide) rfl wF_X7_261 dX7_fairest_187 ?_
            refine lv_lmul hx hb dX7_fairest_190 ?_
            refine W.lcmp hx hb dX7_fairest_191 ?_
            refine lv_if_gt (tgt := 198) hx hb dX7_fairest_192 (by decide) (fun hc => ?_) (fun hc => ?_)
            · replace hM := h_t hc hM
              refine lv_iload hx hb dX7_fairest_198 (lv_at hl 6 rfl) ?_
              refine lv_istore_n (lv' := [(3, .int z111_8), (0, .ref (ad 109)), (1, .int z111_1), (2, .int z111_2), (4, .long z111_4), (6, .long z111_6), (8, .int z111_8), (9, .int z111_9), (10, .int z111_10)]) hx hb dX7_fairest_200 rfl hl (by decide) rfl (fun ls hl => ?_)
              refine lv_aload_n hx hb dX7_fairest_201 rfl (lv_at hl 1 rfl) ?_
              refine a_getj (σ := aG ι111) (o := 109) (T := TX7) (N := 20) C wU_X7 hw rfl (by decide) rfl 18 (by decide) rfl wF_X7_258 dX7_fairest_202 ?_
              refine lv_aload_n hx hb dX7_fairest_205 rfl (lv_at hl 1 rfl) ?_
              refine a_getj (σ := aG ι111) (o := 109) (T := TX7) (N := 20) C wU_X7 hw rfl (by decide) rfl 18 (by decide) rfl wF_X7_258 dX7_fairest_206 ?_
              refine lv_lmul hx hb dX7_fairest_209 ?_
              refine lv_lstore (lv' := [(4, .long ((gJ ι111 109 18) * (gJ ι111 109 18))), (3, .int z111_8), (0, .ref (ad 109)), (1, .int z111_1), (2, .int z111_2), (6, .long z111_6), (8, .int z111_8), (9, .int z111_9), (10, .int z111_10)]) hx hb dX7_fairest_210 hl (by decide) rfl (fun ls hl => ?_)
              refine lv_aload_n hx hb dX7_fairest_212 rfl (lv_at hl 2 rfl) ?_
              refine a_getj (σ := aG ι111) (o := 109) (T := TX7) (N := 20) C wU_X7 hw rfl (by decide) rfl 19 (by decide) rfl wF_X7_261 dX7_fairest_213 ?_
              refine lv_lstore (lv' := [(6, .long (gJ ι111 109 19)), (4, .long ((gJ ι111 109 18) * (gJ ι111 109 18))), (3, .int z111_8), (0, .ref (ad 109)), (1, .int z111_1), (2, .int z111_2), (8, .int z111_8), (9, .int z111_9), (10, .int z111_10)]) hx hb dX7_fairest_216 hl (by decide) rfl (fun ls hl => ?_)
              refine lv_iinc (v := (z111_8 + 2)) (lv' := [(8, .int (z111_8 + 2)), (6, .long (gJ ι111 109 19)), (4, .long ((gJ ι111 109 18) * (gJ ι111 109 18))), (3, .int z111_8), (0, .ref (ad 109)), (1, .int z111_1), (2, .int z111_2), (9, .int z111_9), (10, .int z111_10)]) hx hb dX7_fairest_218 hl (k := 6) rfl rfl (by decide) rfl (fun ls hl => ?_)
              refine lv_goto (tgt := 51) hx hb dX7_fairest_221 (by decide) ?_
              exact ih (z111_1) (z111_2) (z111_8) (((gJ ι111 109 18) * (gJ ι111 109 18))) ((gJ ι111 109 19)) ((z111_8 + 2)) hM hw (lv_sub hl [4, 5, 6, 3, 2, 1, 0] rfl)
            · replace hM := h_f hc hM
              refine lv_goto (tgt := 218) hx hb dX7_fairest_195 (by decide) ?_
              refine lv_iinc (v := (z111_8 + 2)) (lv' := [(8, .int (z111_8 + 2)), (0, .ref (ad 109)), (1, .int z111_1), (2, .int z111_2), (3, .int z111_3), (4, .long z111_4), (6, .long z111_6), (9, .int z111_9), (10, .int z111_10)]) hx hb dX7_fairest_218 hl (k := 6) rfl rfl (by decide) rfl (fun ls hl => ?_)
              refine lv_goto (tgt := 51) hx hb dX7_fairest_221 (by decide) ?_
              exact ih (z111_1) (z111_2) (z111_3) (z111_4) (z111_6) ((z111_8 + 2)) hM hw (lv_sub hl [1, 2, 3, 4, 5, 6, 0] rfl)
        · replace hM := h_t hc hM
          refine lv_aload_n hx hb dX7_fairest_162 rfl (lv_at hl 0 rfl) ?_
          refine lv_lconst (v := (1 : Int64)) hx hb dX7_fairest_163 (by decide) ?_
          refine a_putj (σ := aG ι111) (o := 109) (T := TX7) (N := 20) (ty0 := tyX7) C wU_X7 tyX7_ok nmX7 hw rfl (by decide) rfl 19 (by decide) rfl wF_X7_261 rfl (by decide +kernel) dX7_fairest_164 (fun H locs hw => ?_)
          have hw : aW D dA ad adV (aG (pJ ι111 109 19 (1 : Int64))) A s H locs := hw
          refine lv_iload_n hx hb dX7_fairest_167 rfl (lv_at hl 3 rfl) ?_
          refine lv_iconst (v := (-1 : Int32)) hx hb dX7_fairest_168 (by decide) ?_
          refine lv_icmp_eq (tgt := 198) hx hb dX7_fairest_169 (by decide) (fun hc => ?_) (fun hc => ?_)
          · replace hM := h_t hc hM
            refine lv_iload hx hb dX7_fairest_198 (lv_at hl 6 rfl) ?_
            refine lv_istore_n (lv' := [(3, .int z111_8), (0, .ref (ad 109)), (1, .int z111_1), (2, .int z111_2), (4, .long z111_4), (6, .long z111_6), (8, .int z111_8), (9, .int z111_9), (10, .int z111_10)]) hx hb dX7_fairest_200 rfl hl (by decide) rfl (fun ls hl => ?_)
            refine lv_aload_n hx hb dX7_fairest_201 rfl (lv_at hl 1 rfl) ?_
            refine a_getj (σ := aG (pJ ι111 109 19 (1 : Int64))) (o := 109) (T := TX7) (N := 20) C wU_X7 hw rfl (by decide) rfl 18 (by decide) rfl wF_X7_258 dX7_fairest_202 ?_
            refine lv_aload_n hx hb dX7_fairest_205 rfl (lv_at hl 1 rfl) ?_
            refine a_getj (σ := aG (pJ ι111 109 19 (1 : Int64))) (o := 109) (T := TX7) (N := 20) C wU_X7 hw rfl (by decide) rfl 18 (by decide) rfl wF_X7_258 dX7_fairest_206 ?_
            refine lv_lmul hx hb dX7_fairest_209 ?_
            refine lv_lstore (lv' := [(4, .long ((gJ (pJ ι111 109 19 (1 : Int64)) 109 18) * (gJ (pJ ι111 109 19 (1 : Int64)) 109 18))), (3, .int z111_8), (0, .ref (ad 109)), (1, .int z111_1), (2, .int z111_2), (6, .long z111_6), (8, .int z111_8), (9, .int z111_9), (10, .int z111_10)]) hx hb dX7_fairest_210 hl (by decide) rfl (fun ls hl => ?_)
            refine lv_aload_n hx hb dX7_fairest_212 rfl (lv_at hl 2 rfl) ?_
            refine a_getj (σ := aG (pJ ι111 109 19 (1 : Int64))) (o := 109) (T := TX7) (N := 20) C wU_X7 hw rfl (by decide) rfl 19 (by decide) rfl wF_X7_261 dX7_fairest_213 ?_
            refine lv_lstore (lv' := [(6, .long (gJ (pJ ι111 109 19 (1 : Int64)) 109 19)), (4, .long ((gJ (pJ ι111 109 19 (1 : Int64)) 109 18) * (gJ (pJ ι111 109 19 (1 : Int64)) 109 18))), (3, .int z111_8), (0, .ref (ad 109)), (1, .int z111_1), (2, .int z111_2), (8, .int z111_8), (9, .int z111_9), (10, .int z111_10)]) hx hb dX7_fairest_216 hl (by decide) rfl (fun ls hl => ?_)
            refine lv_iinc (v := (z111_8 + 2)) (lv' := [(8, .int (z111_8 + 2)), (6, .long (gJ (pJ ι111 109 19 (1 : Int64)) 109 19)), (4, .long ((gJ (pJ ι111 109 19 (1 : Int64)) 109 18) * (gJ (pJ ι111 109 19 (1 : Int64)) 109 18))), (3, .int z111_8), (0, .ref (ad 109)), (1, .int z111_1), (2, .int z111_2), (9, .int z111_9), (10, .int z111_10)]) hx hb dX7_fairest_218 hl (k := 6) rfl rfl (by decide) rfl (fun ls hl => ?_)
            refine lv_goto (tgt := 51) hx hb dX7_fairest_221 (by decide) ?_
            exact ih (z111_1) (z111_2) (z111_8) (((gJ (pJ ι111 109 19 (1 : Int64)) 109 18) * (gJ (pJ ι111 109 19 (1 : Int64)) 109 18))) ((gJ (pJ ι111 109 19 (1 : Int64)) 109 19)) ((z111_8 + 2)) hM hw (lv_sub hl [4, 5, 6, 3, 2, 1, 0] rfl)
          · replace hM := h_f hc hM
            refine lv_aload_n hx hb dX7_fairest_172 rfl (lv_at hl 0 rfl) ?_
            refine a_getj (σ := aG (pJ ι111 109 19 (1 : Int64))) (o := 109) (T := TX7) (N := 20) C wU_X7 hw rfl (by decide) rfl 18 (by decide) rfl wF_X7_258 dX7_fairest_173 ?_
            refine lv_aload_n hx hb dX7_fairest_176 rfl (lv_at hl 0 rfl) ?_
            refine a_getj (σ := aG (pJ ι111 109 19 (1 : Int64))) (o := 109) (T := TX7) (N := 20) C wU_X7 hw rfl (by decide) rfl 18 (by decide) rfl wF_X7_258 dX7_fairest_177 ?_
            refine lv_lmul hx hb dX7_fairest_180 ?_
            refine lv_lload hx hb dX7_fairest_181 (lv_at hl 5 rfl) ?_
            refine lv_lmul hx hb dX7_fairest_183 ?_
            refine lv_lload hx hb dX7_fairest_184 (lv_at hl 4 rfl) ?_
            refine lv_aload_n hx hb dX7_fairest_186 rfl (lv_at hl 0 rfl) ?_
            refine a_getj (σ := aG (pJ ι111 109 19 (1 : Int64))) (o := 109) (T := TX7) (N := 20) C wU_X7 hw rfl (by decide) rfl 19 (by decide) rfl wF_X7_261 dX7_fairest_187 ?_
            refine lv_lmul hx hb dX7_fairest_190 ?_
            refine W.lcmp hx hb dX7_fairest_191 ?_
            refine lv_if_gt (tgt := 198) hx hb dX7_fairest_192 (by decide) (fun hc => ?_) (fun hc => ?_)
            · replace hM := h_t hc hM
              refine lv_iload hx hb dX7_fairest_198 (lv_at hl 6 rfl) ?_
              refine lv_istore_n (lv' := [(3, .int z111_8), (0, .ref (ad 109)), (1, .int z111_1), (2, .int z111_2), (4, .long z111_4), (6, .long z111_6), (8, .int z111_8), (9, .int z111_9), (10, .int z111_10)]) hx hb dX7_fairest_200 rfl hl (by decide) rfl (fun ls hl => ?_)
              refine lv_aload_n hx hb dX7_fairest_201 rfl (lv_at hl 1 rfl) ?_
              refine a_getj (σ := aG (pJ ι111 109 19 (1 : Int64))) (o := 109) (T := TX7) (N := 20) C wU_X7 hw rfl (by decide) rfl 18 (by decide) rfl wF_X7_258 dX7_fairest_202 ?_
              refine lv_aload_n hx hb dX7_fairest_205 rfl (lv_at hl 1 rfl) ?_
              refine a_getj (σ := aG (pJ ι111 109 19 (1 : Int64))) (o := 109) (T := TX7) (N := 20) C wU_X7 hw rfl (by decide) rfl 18 (by decide) rfl wF_X7_258 dX7_fairest_206 ?_
              refine lv_lmul hx hb dX7_fairest_209 ?_
              refine lv_lstore (lv' := [(4, .long ((gJ (pJ ι111 109 19 (1 : Int64)) 109 18) * (gJ (pJ ι111 109 19 (1 : Int64)) 109 18))), (3, .int z111_8), (0, .ref (ad 109)), (1, .int z111_1), (2, .int z111_2), (6, .long z111_6), (8, .int z111_8), (9, .int z111_9), (10, .int z111_10)]) hx hb dX7_fairest_210 hl (by decide) rfl (fun ls hl => ?_)
              refine lv_aload_n hx hb dX7_fairest_212 rfl (lv_at hl 2 rfl) ?_
              refine a_getj (σ := aG (pJ ι111 109 19 (1 : Int64))) (o := 109) (T := TX7) (N := 20) C wU_X7 hw rfl (by decide) rfl 19 (by decide) rfl wF_X7_261 dX7_fairest_213 ?_
              refine lv_lstore (lv' := [(6, .long (gJ (pJ ι111 109 19 (1 : Int64)) 109 19)), (4, .long ((gJ (pJ ι111 109 19 (1 : Int64)) 109 18) * (gJ (pJ ι111 109 19 (1 : Int64)) 109 18))), (3, .int z111_8), (0, .ref (ad 109)), (1, .int z111_1), (2, .int z111_2), (8, .int z111_8), (9, .int z111_9), (10, .int z111_10)]) hx hb dX7_fairest_216 hl (by decide) rfl (fun ls hl => ?_)
              refine lv_iinc (v := (z111_8 + 2)) (lv' := [(8, .int (z111_8 + 2)), (6, .long (gJ (pJ ι111 109 19 (1 : Int64)) 109 19)), (4, .long ((gJ (pJ ι111 109 19 (1 : Int64)) 109 18) * (gJ (pJ ι111 109 19 (1 : Int64)) 109 18))), (3, .int z111_8), (0, .ref (ad 109)), (1, .int z111_1), (2, .int z111_2), (9, .int z111_9), (10, .int z111_10)]) hx hb dX7_fairest_218 hl (k := 6) rfl rfl (by decide) rfl (fun ls hl => ?_)
              refine lv_goto (tgt := 51) hx hb dX7_fairest_221 (by decide) ?_
              exact ih (z111_1) (z111_2) (z111_8) (((gJ (pJ ι111 109 19 (1 : Int64)) 109 18) * (gJ (pJ ι111 109 19 (1 : Int64)) 109 18))) ((gJ (pJ ι111 109 19 (1 : Int64)) 109 19)) ((z111_8 + 2)) hM hw (lv_sub hl [4, 5, 6, 3, 2, 1, 0] rfl)
            · replace hM := h_f hc hM
              refine lv_goto (tgt := 218) hx hb dX7_fairest_195 (by decide) ?_
              refine lv_iinc (v := (z111_8 + 2)) (lv' := [(8, .int (z111_8 + 2)), (0, .ref (ad 109)), (1, .int z111_1), (2, .int z111_2), (3, .int z111_3), (4, .long z111_4), (6, .long z111_6), (9, .int z111_9), (10, .int z111_10)]) hx hb dX7_fairest_218 hl (k := 6) rfl rfl (by decide) rfl (fun ls hl => ?_)
              refine lv_goto (tgt := 51) hx hb dX7_fairest_221 (by decide) ?_
              exact ih (z111_1) (z111_2) (z111_3) (z111_4) (z111_6) ((z111_8 + 2)) hM hw (lv_sub hl [1, 2, 3, 4, 5, 6, 0] rfl)
      · replace hM := h_f hc hM
        refine lv_goto (tgt := 218) hx hb dX7_fairest_101 (by decide) ?_
        refine lv_iinc (v := (z68_8 + 2)) (lv' := [(8, .int (z68_8 + 2)), (0, .ref (ad 109)), (1, .int z68_1), (2, .int z68_2), (3, .int z68_3), (4, .long z68_4), (6, .long z68_6), (9, .int z68_9), (10, .int z68_10)]) hx hb dX7_fairest_218 hl (k := 6) rfl rfl (by decide) rfl (fun ls hl => ?_)
        refine lv_goto (tgt := 51) hx hb dX7_fairest_221 (by decide) ?_
        exact ih (z68_1) (z68_2) (z68_3) (z68_4) (z68_6) ((z68_8 + 2)) hM hw (lv_sub hl [1, 2, 3, 4, 5, 6, 0] rfl)
theorem k_X7_fairest : aCal RX7 yX7_fairest cX7_fairest 11 (some .long) 2 := ⟨wI_yX7_fairest, wE_yX7_fairest, wZ_X7, wC_yX7_fairest, by decide +kernel⟩
set_option maxHeartbeats 4000000 in
set_option maxRecDepth 100000 in
theorem c_X7_fairest (l : Launch) {x1 : Int32} {x2 : Int32} {ι : iS} {res : Int64 × iS} (hM : m_X7_fairest x1 x2 ι = some res) : aM l yX7_fairest cX7_fairest 11 (some .long) rm_X7_fairest (fun ad => [.ref (ad 109), .int x1, .int x2]) (aG ι) (some (.long res.1)) (aG res.2) := by
  refine aM.of (by decide) (fun _ => Nat.le_of_ble_eq_true rfl) ?_
  intro p e s m args below meth c D dA ad adV A ls C hw hl
  have C : aX p m c cX7_fairest 11 s args aTs RX7 meth (some .long) := C
  have hx := C.1.1
  have hb := C.1.2.1
  have hml := C.1.2.2.1
  have hown := C.1.2.2.2.1
  have hts := C.1.2.2.2.2
  have hl : lv_has ls 11 [(0, .ref (ad 109)), (1, .int x1), (2, .int x2)] := hl
  unfold m_X7_fairest at hM
  refine lv_aload_n hx hb dX7_fairest_0 rfl (lv_at hl 0 rfl) ?_
  refine lv_iconst (v := (0 : Int32)) hx hb dX7_fairest_1 (by decide) ?_
  refine a_puti (ty := .int) (σ := aG ι) (o := 109) (T := TX7) (N := 20) (ty0 := tyX7) C wU_X7 tyX7_ok nmX7 hw rfl (by decide) rfl 0 (by decide) rfl wF_X7_42 rfl (by decide +kernel) rfl rfl dX7_fairest_2 (fun H locs hw => ?_)
  have hw : aW D dA ad adV (aG (pI ι 109 0 (0 : Int32))) A s H locs := hw
  refine lv_aload_n hx hb dX7_fairest_5 rfl (lv_at hl 0 rfl) ?_
  refine lv_iload_n hx hb dX7_fairest_6 rfl (lv_at hl 1 rfl) ?_
  refine lv_iconst (v := (2 : Int32)) hx hb dX7_fairest_7 (by decide) ?_
  refine lv_bipush (v := (8 : Int32)) hx hb dX7_fairest_8 (by decide) ?_
  obtain ⟨r10, hr10, hM⟩ := h_b hM
  refine a_callS  (σ' := aG r10.2) (v := (some (.int r10.1))) (as := fun ad => [.int x1, .int (2 : Int32), .int (8 : Int32)]) (rest := [.ref (ad 109)]) C hw (c_X7_in l hr10) k_X7_in wM_X7_81 ⟨⟨rfl, rfl⟩, ⟨Nat.le_of_ble_eq_true rfl, Nat.le_of_ble_eq_true rfl⟩⟩ rfl hl rfl (Nat.le_of_ble_eq_true rfl) dX7_fairest_10 ⟨Nat.zero_le _, Nat.zero_le _⟩ (fun H locs hw => ?_)
  refine lv_if_eq (tgt := 25) hx hb dX7_fairest_13 (by decide) (fun hc => ?_) (fun hc => ?_)
  · replace hM := h_t hc hM
    refine lv_iconst (v := (1 : Int32)) hx hb dX7_fairest_25 (by decide) ?_
    refine lv_goto (tgt := 30) hx hb dX7_fairest_26 (by decide) ?_
    refine lv_iconst (v := (1 : Int32)) hx hb dX7_fairest_30 (by decide) ?_
    refine lv_iconst (v := (1 : Int32)) hx hb dX7_fairest_31 (by decide) ?_
    obtain ⟨r32, hr32, hM⟩ := h_b hM
    refine a_callV (σ' := aG r32.2) (v := (some (.int r32.1))) (As := fun ad => [.int (1 : Int32), .int (1 : Int32), .int (1 : Int32)]) (rest := []) (o := 109) C hw (c_X7_bad l hr32) k_X7_bad wM_X7_164 ⟨⟨rfl, rfl⟩, ⟨Nat.le_of_ble_eq_true rfl, Nat.le_of_ble_eq_true rfl⟩⟩ rfl (by decide) rfl rfl rfl hl rfl (Nat.le_of_ble_eq_true rfl) dX7_fairest_32 ⟨Nat.zero_le _, Nat.zero_le _⟩ (fun H locs hw => ?_)
    refine lv_if_eq (tgt := 40) hx hb dX7_fairest_35 (by decide) (fun hc => ?_) (fun hc => ?_)
    · replace hM := h_t hc hM
      refine lv_iconst (v := (-1 : Int32)) hx hb dX7_fairest_40 (by decide) ?_
      refine lv_istore_n (lv' := [(3, .int (-1 : Int32)), (0, .ref (ad 109)), (1, .int x1), (2, .int x2)]) hx hb dX7_fairest_41 rfl hl (by decide) rfl (fun ls hl => ?_)
      refine lv_lconst (v := (0 : Int64)) hx hb dX7_fairest_42 (by decide) ?_
      refine lv_lstore (lv' := [(4, .long (0 : Int64)), (3, .int (-1 : Int32)), (0, .ref (ad 109)), (1, .int x1), (2, .int x2)]) hx hb dX7_fairest_43 hl (by decide) rfl (fun ls hl => ?_)
      refine lv_lconst (v := (1 : Int64)) hx hb dX7_fairest_45 (by decide) ?_
      refine lv_lstore (lv' := [(6, .long (1 : Int64)), (4, .long (0 : Int64)), (3, .int (-1 : Int32)), (0, .ref (ad 109)), (1, .int x1), (2, .int x2)]) hx hb dX7_fairest_46 hl (by decide) rfl (fun ls hl => ?_)
      refine lv_iconst (v := (0 : Int32)) hx hb dX7_fairest_48 (by decide) ?_
      refine lv_istore (lv' := [(8, .int (0 : Int32)), (6, .long (1 : Int64)), (4, .long (0 : Int64)), (3, .int (-1 : Int32)), (0, .ref (ad 109)), (1, .int x1), (2, .int x2)]) hx hb dX7_fairest_49 hl (by decide) rfl (fun ls hl => ?_)
      exact tl_X7_fairest_51 l C aF (x1) (x2) ((-1 : Int32)) ((0 : Int64)) ((1 : Int64)) ((0 : Int32)) hM hw (lv_sub hl [4, 5, 6, 3, 2, 1, 0] rfl)
    · replace hM := h_f hc hM
      refine lv_lconst (v := (0 : Int64)) hx hb dX7_fairest_38 (by decide) ?_
      cases h_e hM
      exact a_lret C hw dX7_fairest_39
  · replace hM := h_f hc hM
    refine lv_iload_n hx hb dX7_fairest_16 rfl (lv_at hl 2 rfl) ?_
    refine lv_iconst (v := (0 : Int32)) hx hb dX7_fairest_17 (by decide) ?_
    refine lv_iconst (v := (2 : Int32)) hx hb dX7_fairest_18 (by decide) ?_
    obtain ⟨r19, hr19, hM⟩ := h_b hM
    refine a_callS  (σ' := aG r19.2) (v := (some (.int r19.1))) (as := fun ad => [.int x2, .int (0 : Int32), .int (2 : Int32)]) (rest := [.ref (ad 109)]) C hw (c_X7_in l hr19) k_X7_in wM_X7_81 ⟨⟨rfl, rfl⟩, ⟨Nat.le_of_ble_eq_true rfl, Nat.le_of_ble_eq_true rfl⟩⟩ rfl hl rfl (Nat.le_of_ble_eq_true rfl) dX7_fairest_19 ⟨Nat.zero_le _, Nat.zero_le _⟩ (fun H locs hw => ?_)
    refine lv_if_ne (tgt := 29) hx hb dX7_fairest_22 (by decide) (fun hc => ?_) (fun hc => ?_)
    · replace hM := h_f hc hM
      refine lv_iconst (v := (0 : Int32)) hx hb dX7_fairest_29 (by decide) ?_
      refine lv_iconst (v := (1 : Int32)) hx hb dX7_fairest_30 (by decide) ?_
      refine lv_iconst (v := (1 : Int32)) hx hb dX7_fairest_31 (by decide) ?_
      obtain ⟨r32, hr32, hM⟩ := h_b hM
      refine a_callV (σ' := aG r32.2) (v := (some (.int r32.1))) (As := fun ad => [.int (0 : Int32), .int (1 : Int32), .int (1 : Int32)]) (rest := []) (o := 109) C hw (c_X7_bad l hr32) k_X7_bad wM_X7_164 ⟨⟨rfl, rfl⟩, ⟨Nat.le_of_ble_eq_true rfl, Nat.le_of_ble_eq_true rfl⟩⟩ rfl (by decide) rfl rfl rfl hl rfl (Nat.le_of_ble_eq_true rfl) dX7_fairest_32 ⟨Nat.zero_le _, Nat.zero_le _⟩ (fun H locs hw => ?_)
      refine lv_if_eq (tgt := 40) hx hb dX7_fairest_35 (by decide) (fun hc => ?_) (fun hc => ?_)
      · replace hM := h_t hc hM
        refine lv_iconst (v := (-1 : Int32)) hx hb dX7_fairest_40 (by decide) ?_
        refine lv_istore_n (lv' := [(3, .int (-1 : Int32)), (0, .ref (ad 109)), (1, .int x1), (2, .int x2)]) hx hb dX7_fairest_41 rfl hl (by decide) rfl (fun ls hl => ?_)
        refine lv_lconst (v := (0 : Int64)) hx hb dX7_fairest_42 (by decide) ?_
        refine lv_lstore (lv' := [(4, .long (0 : Int64)), (3, .int (-1 : Int32)), (0, .ref (ad 109)), (1, .int x1), (2, .int x2)]) hx hb dX7_fairest_43 hl (by decide) rfl (fun ls hl => ?_)
        refine lv_lconst (v := (1 : Int64)) hx hb dX7_fairest_45 (by decide) ?_
        refine lv_lstore (lv' := [(6, .long (1 : Int64)), (4, .long (0 : Int64)), (3, .int (-1 : Int32)), (0, .ref (ad 109)), (1, .int x1), (2, .int x2)]) hx hb dX7_fairest_46 hl (by decide) rfl (fun ls hl => ?_)
        refine lv_iconst (v := (0 : Int32)) hx hb dX7_fairest_48 (by decide) ?_
        refine lv_istore (lv' := [(8, .int (0 : Int32)), (6, .long (1 : Int64)), (4, .long (0 : Int64)), (3, .int (-1 : Int32)), (0, .ref (ad 109)), (1, .int x1), (2, .int x2)]) hx hb dX7_fairest_49 hl (by decide) rfl (fun ls hl => ?_)
        exact tl_X7_fairest_51 l C aF (x1) (x2) ((-1 : Int32)) ((0 : Int64)) ((1 : Int64)) ((0 : Int32)) hM hw (lv_sub hl [4, 5, 6, 3, 2, 1, 0] rfl)
      · replace hM := h_f hc hM
        refine lv_lconst (v := (0 : Int64)) hx hb dX7_fairest_38 (by decide) ?_
        cases h_e hM
        exact a_lret C hw dX7_fairest_39
    · replace hM := h_t hc hM
      refine lv_iconst (v := (1 : Int32)) hx hb dX7_fairest_25 (by decide) ?_
      refine lv_goto (tgt := 30) hx hb dX7_fairest_26 (by decide) ?_
      refine lv_iconst (v := (1 : Int32)) hx hb dX7_fairest_30 (by decide) ?_
      refine lv_iconst (v := (1 : Int32)) hx hb dX7_fairest_31 (by decide) ?_
      obtain ⟨r32, hr32, hM⟩ := h_b hM
      refine a_callV (σ' := aG r32.2) (v := (some (.int r32.1))) (As := fun ad => [.int (1 : Int32), .int (1 : Int32), .int (1 : Int32)]) (rest := []) (o := 109) C hw (c_X7_bad l hr32) k_X7_bad wM_X7_164 ⟨⟨rfl, rfl⟩, ⟨Nat.le_of_ble_eq_true rfl, Nat.le_of_ble_eq_true rfl⟩⟩ rfl (by decide) rfl rfl rfl hl rfl (Nat.le_of_ble_eq_true rfl) dX7_fairest_32 ⟨Nat.zero_le _, Nat.zero_le _⟩ (fun H locs hw => ?_)
      refine lv_if_eq (tgt := 40) hx hb dX7_fairest_35 (by decide) (fun hc => ?_) (fun hc => ?_)
      · replace hM := h_t hc hM
        refine lv_iconst (v := (-1 : Int32)) hx hb dX7_fairest_40 (by decide) ?_
        refine lv_istore_n (lv' := [(3, .int (-1 : Int32)), (0, .ref (ad 109)), (1, .int x1), (2, .int x2)]) hx hb dX7_fairest_41 rfl hl (by decide) rfl (fun ls hl => ?_)
        refine lv_lconst (v := (0 : Int64)) hx hb dX7_fairest_42 (by decide) ?_
        refine lv_lstore (lv' := [(4, .long (0 : Int64)), (3, .int (-1 : Int32)), (0, .ref (ad 109)), (1, .int x1), (2, .int x2)]) hx hb dX7_fairest_43 hl (by decide) rfl (fun ls hl => ?_)
        refine lv_lconst (v := (1 : Int64)) hx hb dX7_fairest_45 (by decide) ?_
        refine lv_lstore (lv' := [(6, .long (1 : Int64)), (4, .long (0 : Int64)), (3, .int (-1 : Int32)), (0, .ref (ad 109)), (1, .int x1), (2, .int x2)]) hx hb dX7_fairest_46 hl (by decide) rfl (fun ls hl => ?_)
        refine lv_iconst (v := (0 : Int32)) hx hb dX7_fairest_48 (by decide) ?_
        refine lv_istore (lv' := [(8, .int (0 : Int32)), (6, .long (1 : Int64)), (4, .long (0 : Int64)), (3, .int (-1 : Int32)), (0, .ref (ad 109)), (1, .int x1), (2, .int x2)]) hx hb dX7_fairest_49 hl (by decide) rfl (fun ls hl => ?_)
        exact tl_X7_fairest_51 l C aF (x1) (x2) ((-1 : Int32)) ((0 : Int64)) ((1 : Int64)) ((0 : Int32)) hM hw (lv_sub hl [4, 5, 6, 3, 2, 1, 0] rfl)
      · replace hM := h_f hc hM
        refine lv_lconst (v := (0 : Int64)) hx hb dX7_fairest_38 (by decide) ?_
        cases h_e hM
        exact a_lret C hw dX7_fairest_39
def rm_X7_isHidden : Room := { frames := 1, cells := 0, slots := 0, locals := 22 }
theorem k_X7_isHidden : aCal RX7 yX7_isHidden cX7_isHidden 1 (some .boolean) 0 := ⟨wI_yX7_isHidden, wE_yX7_isHidden, wZ_X7, wC_yX7_isHidden, by decide +kernel⟩
set_option maxHeartbeats 4000000 in
set_option maxRecDepth 100000 in
theorem c_X7_isHidden (l : Launch) {ι : iS} {res : Int32 × iS} (hM : m_X7_isHidden ι = some res) : aM l yX7_isHidden cX7_isHidden 1 (some .boolean) rm_X7_isHidden (fun ad => [.ref (ad 109)]) (aG ι) (some (.int res.1)) (aG res.2) := by
  refine aM.of (by decide) (fun _ => Nat.le_of_ble_eq_true rfl) ?_
  intro p e s m args below meth c D dA ad adV A ls C hw hl
  have C : aX p m c cX7_isHidden 1 s args aTs RX7 meth (some .boolean) := C
  have hx := C.1.1
  have hb := C.1.2.1
  have hml := C.1.2.2.1
  have hown := C.1.2.2.2.1
  have hts := C.1.2.2.2.2
  have hl : lv_has ls 1 [(0, .ref (ad 109))] := hl
  unfold m_X7_isHidden at hM
  refine lv_aload_n hx hb dX7_isHidden_0 rfl (lv_at hl 0 rfl) ?_
  refine lv_iconst (v := (0 : Int32)) hx hb dX7_isHidden_1 (by decide) ?_
  obtain ⟨r2, hr2, hM⟩ := h_b hM
  refine a_callV (σ' := aG r2.2) (v := (some (.int r2.1))) (As := fun ad => [.int (0 : Int32)]) (rest := []) (o := 109) C hw (c_X7_placeOf l hr2) k_X7_placeOf wM_X7_210 ⟨⟨rfl, rfl⟩, ⟨Nat.le_of_ble_eq_true rfl, Nat.le_of_ble_eq_true rfl⟩⟩ rfl (by decide) rfl rfl rfl hl rfl (Nat.le_of_ble_eq_true rfl) dX7_isHidden_2 ⟨Nat.zero_le _, Nat.zero_le _⟩ (fun H locs hw => ?_)
  refine lv_iconst (v := (-1 : Int32)) hx hb dX7_isHidden_5 (by decide) ?_
  refine lv_icmp_ne (tgt := 13) hx hb dX7_isHidden_6 (by decide) (fun hc => ?_) (fun hc => ?_)
  · replace hM := h_f hc hM
    refine lv_iconst (v := (0 : Int32)) hx hb dX7_isHidden_13 (by decide) ?_
    cases h_e hM
    exact a_zret C (zn (v := 0) (Or.inl rfl)) hw dX7_isHidden_14
  · replace hM := h_t hc hM
    refine lv_iconst (v := (1 : Int32)) hx hb dX7_isHidden_9 (by decide) ?_
    refine lv_goto (tgt := 14) hx hb dX7_isHidden_10 (by decide) ?_
    cases h_e hM
    exact a_zret C (zn (v := 1) (Or.inr rfl)) hw dX7_isHidden_14
def rm_X7_suspectBy : Room := { frames := 5, cells := 0, slots := 0, locals := 123 }
theorem k_X7_suspectBy : aCal RX7 yX7_suspectBy cX7_suspectBy 5 (some .long) 4 := ⟨wI_yX7_suspectBy, wE_yX7_suspectBy, wZ_X7, wC_yX7_suspectBy, by decide +kernel⟩
set_option maxHeartbeats 4000000 in
set_option maxRecDepth 100000 in
theorem c_X7_suspectBy (l : Launch) {x1 : Int32} {x2 : Int32} {x3 : Int32} {x4 : Int32} {ι : iS} {res : Int64 × iS} (hM : m_X7_suspectBy x1 x2 x3 x4 ι = some res) : aM l yX7_suspectBy cX7_suspectBy 5 (some .long) rm_X7_suspectBy (fun ad => [.ref (ad 109), .int x1, .int x2, .int x3, .int x4]) (aG ι) (some (.long res.1)) (aG res.2) := by
  refine aM.of (by decide) (fun _ => Nat.le_of_ble_eq_true rfl) ?_
  intro p e s m args below meth c D dA ad adV A ls C hw hl
  have C : aX p m c cX7_suspectBy 5 s args aTs RX7 meth (some .long) := C
  have hx := C.1.1
  have hb := C.1.2.1
  have hml := C.1.2.2.1
  have hown := C.1.2.2.2.1
  have hts := C.1.2.2.2.2
  have hl : lv_has ls 5 [(0, .ref (ad 109)), (1, .int x1), (2, .int x2), (3, .int x3), (4, .int x4)] := hl
  unfold m_X7_suspectBy at hM
  refine lv_aload_n hx hb dX7_suspectBy_0 rfl (lv_at hl 0 rfl) ?_
  refine lv_iload_n hx hb dX7_suspectBy_1 rfl (lv_at hl 2 rfl) ?_
  refine lv_iload_n hx hb dX7_suspectBy_2 rfl (lv_at hl 3 rfl) ?_
  obtain ⟨r3, hr3, hM⟩ := h_b hM
  refine a_callV (σ' := aG r3) (v := none) (As := fun ad => [.int x2, .int x3]) (rest := []) (o := 109) C hw (c_X7_feels l hr3) k_X7_feels wM_X7_242 ⟨⟨rfl, rfl⟩, ⟨Nat.le_of_ble_eq_true rfl, Nat.le_of_ble_eq_true rfl⟩⟩ rfl (by decide) rfl rfl rfl hl rfl (Nat.le_of_ble_eq_true rfl) dX7_suspectBy_3 ⟨Nat.zero_le _, Nat.zero_le _⟩ (fun H locs hw => ?_)
  refine lv_aload_n hx hb dX7_suspectBy_6 rfl (lv_at hl 0 rfl) ?_
  refine lv_iload_n hx hb dX7_suspectBy_7 rfl (lv_at hl 1 rfl) ?_
  refine lv_aload_n hx hb dX7_suspectBy_8 rfl (lv_at hl 0 rfl) ?_
  refine lv_iconst (v := (0 : Int32)) hx hb dX7_suspectBy_9 (by decide) ?_
  obtain ⟨r10, hr10, hM⟩ := h_b hM
  refine a_callV (σ' := aG r10.2) (v := (some (.int r10.1))) (As := fun ad => [.int (0 : Int32)]) (rest := [.int x1, .ref (ad 109)]) (o := 109) C hw (c_X7_placeOf l hr10) k_X7_placeOf wM_X7_210 ⟨⟨rfl, rfl⟩, ⟨Nat.le_of_ble_eq_true rfl, Nat.le_of_ble_eq_true rfl⟩⟩ rfl (by decide) rfl rfl rfl hl rfl (Nat.le_of_ble_eq_true rfl) dX7_suspectBy_10 ⟨Nat.zero_le _, Nat.zero_le _⟩ (fun H locs hw => ?_)
  refine lv_iload hx hb dX7_suspectBy_13 (lv_at hl 4 rfl) ?_
  obtain ⟨r15, hr15, hM⟩ := h_b hM
  refine a_callV (σ' := aG r15.2) (v := (some (.long r15.1))) (As := fun ad => [.int x1, .int r10.1, .int x4]) (rest := []) (o := 109) C hw (c_X7_picked l hr15) k_X7_picked wM_X7_246 ⟨⟨rfl, rfl⟩, ⟨Nat.le_of_ble_eq_true rfl, Nat.le_of_ble_eq_true rfl⟩⟩ rfl (by decide) rfl rfl rfl hl rfl (Nat.le_of_ble_eq_true rfl) dX7_suspectBy_15 ⟨Nat.zero_le _, Nat.zero_le _⟩ (fun H locs hw => ?_)
  cases h_e hM
  exact a_lret C hw dX7_suspectBy_18
def rm_X7_odds : Room := { frames := 6, cells := 0, slots := 0, locals := 147 }
theorem k_X7_odds : aCal RX7 yX7_odds cX7_odds 9 (some .long) 4 := ⟨wI_yX7_odds, wE_yX7_odds, wZ_X7, wC_yX7_odds, by decide +kernel⟩
set_option maxHeartbeats 4000000 in
set_option maxRecDepth 100000 in
theorem c_X7_odds (l : Launch) {x1 : Int32} {x2 : Int32} {x3 : Int32} {x4 : Int32} {ι : iS} {res : Int64 × iS} (hM : m_X7_odds x1 x2 x3 x4 ι = some res) : aM l yX7_odds cX7_odds 9 (some .long) rm_X7_odds (fun ad => [.ref (ad 109), .int x1, .int x2, .int x3, .int x4]) (aG ι) (some (.long res.1)) (aG res.2) := by
  refine aM.of (by decide) (fun _ => Nat.le_of_ble_eq_true rfl) ?_
  intro p e s m args below meth c D dA ad adV A ls C hw hl
  have C : aX p m c cX7_odds 9 s args aTs RX7 meth (some .long) := C
  have hx := C.1.1
  have hb := C.1.2.1
  have hml := C.1.2.2.1
  have hown := C.1.2.2.2.1
  have hts := C.1.2.2.2.2
  have hl : lv_has ls 9 [(0, .ref (ad 109)), (1, .int x1), (2, .int x2), (3, .int x3), (4, .int x4)] := hl
  unfold m_X7_odds at hM
  refine lv_aload_n hx hb dX7_odds_0 rfl (lv_at hl 0 rfl) ?_
  refine lv_iconst (v := (0 : Int32)) hx hb dX7_odds_1 (by decide) ?_
  refine a_puti (ty := .int) (σ := aG ι) (o := 109) (T := TX7) (N := 20) (ty0 := tyX7) C wU_X7 tyX7_ok nmX7 hw rfl (by decide) rfl 0 (by decide) rfl wF_X7_42 rfl (by decide +kernel) rfl rfl dX7_odds_2 (fun H locs hw => ?_)
  have hw : aW D dA ad adV (aG (pI ι 109 0 (0 : Int32))) A s H locs := hw
  refine lv_aload_n hx hb dX7_odds_5 rfl (lv_at hl 0 rfl) ?_
  refine lv_iload_n hx hb dX7_odds_6 rfl (lv_at hl 1 rfl) ?_
  obtain ⟨r7, hr7, hM⟩ := h_b hM
  refine a_callS  (σ' := aG r7.2) (v := (some (.int r7.1))) (as := fun ad => [.int x1]) (rest := [.ref (ad 109)]) C hw (c_X7_isHalf l hr7) k_X7_isHalf wM_X7_239 ⟨⟨rfl, rfl⟩, ⟨Nat.le_of_ble_eq_true rfl, Nat.le_of_ble_eq_true rfl⟩⟩ rfl hl rfl (Nat.le_of_ble_eq_true rfl) dX7_odds_7 ⟨Nat.zero_le _, Nat.zero_le _⟩ (fun H locs hw => ?_)
  refine lv_if_eq (tgt := 21) hx hb dX7_odds_10 (by decide) (fun hc => ?_) (fun hc => ?_)
  · replace hM := h_t hc hM
    refine lv_iconst (v := (1 : Int32)) hx hb dX7_odds_21 (by decide) ?_
    refine lv_goto (tgt := 26) hx hb dX7_odds_22 (by decide) ?_
    refine lv_iconst (v := (1 : Int32)) hx hb dX7_odds_26 (by decide) ?_
    refine lv_iconst (v := (1 : Int32)) hx hb dX7_odds_27 (by decide) ?_
    obtain ⟨r28, hr28, hM⟩ := h_b hM
    refine a_callV (σ' := aG r28.2) (v := (some (.int r28.1))) (As := fun ad => [.int (1 : Int32), .int (1 : Int32), .int (1 : Int32)]) (rest := []) (o := 109) C hw (c_X7_bad l hr28) k_X7_bad wM_X7_164 ⟨⟨rfl, rfl⟩, ⟨Nat.le_of_ble_eq_true rfl, Nat.le_of_ble_eq_true rfl⟩⟩ rfl (by decide) rfl rfl rfl hl rfl (Nat.le_of_ble_eq_true rfl) dX7_odds_28 ⟨Nat.zero_le _, Nat.zero_le _⟩ (fun H locs hw => ?_)
    refine lv_if_ne (tgt := 47) hx hb dX7_odds_31 (by decide) (fun hc => ?_) (fun hc => ?_)
    · replace hM := h_f hc hM
      refine lv_lconst (v := (0 : Int64)) hx hb dX7_odds_47 (by decide) ?_
      cases h_e hM
      exact a_lret C hw dX7_odds_48
    · replace hM := h_t hc hM
      refine lv_aload_n hx hb dX7_odds_34 rfl (lv_at hl 0 rfl) ?_
      refine lv_aload_n hx hb dX7_odds_35 rfl (lv_at hl 0 rfl) ?_
      obtain ⟨r36, hr36, hM⟩ := h_b hM
      refine a_callV (σ' := aG r36.2) (v := (some (.int r36.1))) (As := fun ad => []) (rest := [.ref (ad 109)]) (o := 109) C hw (c_X7_isHidden l hr36) k_X7_isHidden wM_X7_272 ⟨⟨rfl, rfl⟩, ⟨Nat.le_of_ble_eq_true rfl, Nat.le_of_ble_eq_true rfl⟩⟩ rfl (by decide) rfl rfl rfl hl rfl (Nat.le_of_ble_eq_true rfl) dX7_odds_36 ⟨Nat.zero_le _, Nat.zero_le _⟩ (fun H locs hw => ?_)
      refine lv_iconst (v := (2 : Int32)) hx hb dX7_odds_39 (by decide) ?_
      refine lv_iconst (v := (2 : Int32)) hx hb dX7_odds_40 (by decide) ?_
      obtain ⟨r41, hr41, hM⟩ := h_b hM
      refine a_callV (σ' := aG r41.2) (v := (some (.int r41.1))) (As := fun ad => [.int r36.1, .int (2 : Int32), .int (2 : Int32)]) (rest := []) (o := 109) C hw (c_X7_bad l hr41) k_X7_bad wM_X7_164 ⟨⟨rfl, rfl⟩, ⟨Nat.le_of_ble_eq_true rfl, Nat.le_of_ble_eq_true rfl⟩⟩ rfl (by decide) rfl rfl rfl hl rfl (Nat.le_of_ble_eq_true rfl) dX7_odds_41 ⟨Nat.zero_le _, Nat.zero_le _⟩ (fun H locs hw => ?_)
      refine lv_if_eq (tgt := 49) hx hb dX7_odds_44 (by decide) (fun hc => ?_) (fun hc => ?_)
      · replace hM := h_t hc hM
        refine lv_aload_n hx hb dX7_odds_49 rfl (lv_at hl 0 rfl) ?_
        refine lv_iload_n hx hb dX7_odds_50 rfl (lv_at hl 1 rfl) ?_
        refine lv_iconst (v := (1 : Int32)) hx hb dX7_odds_51 (by decide) ?_
        refine lv_iload_n hx hb dX7_odds_52 rfl (lv_at hl 2 rfl) ?_
        refine lv_aload_n hx hb dX7_odds_53 rfl (lv_at hl 0 rfl) ?_
        refine a_getp (q := 112) (σ := aG r41.2) (o := 109) (T := TX7) (N := 20) C wU_X7 hw rfl (by decide) rfl 9 (by decide) rfl wF_X7_20 (aG_P rfl rfl) dX7_odds_54 ?_
        refine lv_iconst (v := (5 : Int32)) hx hb dX7_odds_57 (by decide) ?_
        refine a_iald (σ := aG r41.2) (o := 112) C hw rfl (aIn_v (by decide)) (show (5 : Int32).toNatClampNeg = 5 by decide) dX7_odds_58 ?_
        obtain ⟨r59, hr59, hM⟩ := h_b hM
        refine a_callV (σ' := aG r59.2) (v := (some (.long r59.1))) (As := fun ad => [.int x1, .int (1 : Int32), .int x2, .int (gI r41.2 112 5)]) (rest := []) (o := 109) C hw (c_X7_suspectBy l hr59) k_X7_suspectBy wM_X7_275 ⟨⟨rfl, rfl⟩, ⟨Nat.le_of_ble_eq_true rfl, Nat.le_of_ble_eq_true rfl⟩⟩ rfl (by decide) rfl rfl rfl hl rfl (Nat.le_of_ble_eq_true rfl) dX7_odds_59 ⟨Nat.zero_le _, Nat.zero_le _⟩ (fun H locs hw => ?_)
        refine lv_lstore (lv' := [(5, .long r59.1), (0, .ref (ad 109)), (1, .int x1), (2, .int x2), (3, .int x3), (4, .int x4)]) hx hb dX7_odds_62 hl (by decide) rfl (fun ls hl => ?_)
        refine lv_aload_n hx hb dX7_odds_64 rfl (lv_at hl 1 rfl) ?_
        refine lv_iload_n hx hb dX7_odds_65 rfl (lv_at hl 2 rfl) ?_
        refine lv_iconst (v := (0 : Int32)) hx hb dX7_odds_66 (by decide) ?_
        refine lv_iload_n hx hb dX7_odds_67 rfl (lv_at hl 3 rfl) ?_
        refine lv_aload_n hx hb dX7_odds_68 rfl (lv_at hl 1 rfl) ?_
        refine a_getp (q := 112) (σ := aG r59.2) (o := 109) (T := TX7) (N := 20) C wU_X7 hw rfl (by decide) rfl 9 (by decide) rfl wF_X7_20 (aG_P rfl rfl) dX7_odds_69 ?_
        refine lv_iconst (v := (5 : Int32)) hx hb dX7_odds_72 (by decide) ?_
        refine a_iald (σ := aG r59.2) (o := 112) C hw rfl (aIn_v (by decide)) (show (5 : Int32).toNatClampNeg = 5 by decide) dX7_odds_73 ?_
        obtain ⟨r74, hr74, hM⟩ := h_b hM
        refine a_callV (σ' := aG r74.2) (v := (some (.long r74.1))) (As := fun ad => [.int x1, .int (0 : Int32), .int x2, .int (gI r59.2 112 5)]) (rest := []) (o := 109) C hw (c_X7_suspectBy l hr74) k_X7_suspectBy wM_X7_275 ⟨⟨rfl, rfl⟩, ⟨Nat.le_of_ble_eq_true rfl, Nat.le_of_ble_eq_true rfl⟩⟩ rfl (by decide) rfl rfl rfl hl rfl (Nat.le_of_ble_eq_true rfl) dX7_odds_74 ⟨Nat.zero_le _, Nat.zero_le _⟩ (fun H locs hw => ?_)
        refine lv_lstore (lv' := [(7, .long r74.1), (5, .long r59.1), (0, .ref (ad 109)), (1, .int x1), (2, .int x2), (3, .int x3), (4, .int x4)]) hx hb dX7_odds_77 hl (by decide) rfl (fun ls hl => ?_)
        refine lv_iload_n hx hb dX7_odds_79 rfl (lv_at hl 5 rfl) ?_
        refine lv_if_ne (tgt := 101) hx hb dX7_odds_80 (by decide) (fun hc => ?_) (fun hc => ?_)
        · replace hM := h_f hc hM
          refine lv_aload_n hx hb dX7_odds_101 rfl (lv_at hl 2 rfl) ?_
          refine a_getp (q := 112) (σ := aG r74.2) (o := 109) (T := TX7) (N := 20) C wU_X7 hw rfl (by decide) rfl 9 (by decide) rfl wF_X7_20 (aG_P rfl rfl) dX7_odds_102 ?_
          refine lv_bipush (v := (7 : Int32)) hx hb dX7_odds_105 (by decide) ?_
          refine a_iald (σ := aG r74.2) (o := 112) C hw rfl (aIn_v (by decide)) (show (7 : Int32).toNatClampNeg = 7 by decide) dX7_odds_107 ?_
          refine lv_i2l hx hb dX7_odds_108 rfl ?_
          refine lv_lload hx hb dX7_odds_109 (lv_at hl 1 rfl) ?_
          refine lv_lmul hx hb dX7_odds_111 ?_
          refine lv_aload_n hx hb dX7_odds_112 rfl (lv_at hl 2 rfl) ?_
          refine a_getp (q := 112) (σ := aG r74.2) (o := 109) (T := TX7) (N := 20) C wU_X7 hw rfl (by decide) rfl 9 (by decide) rfl wF_X7_20 (aG_P rfl rfl) dX7_odds_113 ?_
          refine lv_bipush (v := (7 : Int32)) hx hb dX7_odds_116 (by decide) ?_
          refine a_iald (σ := aG r74.2) (o := 112) C hw rfl (aIn_v (by decide)) (show (7 : Int32).toNatClampNeg = 7 by decide) dX7_odds_118 ?_
          refine lv_i2l hx hb dX7_odds_119 rfl ?_
          refine lv_lload hx hb dX7_odds_120 (lv_at hl 1 rfl) ?_
          refine lv_lmul hx hb dX7_odds_122 ?_
          refine lv_bipush (v := (100 : Int32)) hx hb dX7_odds_123 (by decide) ?_
          refine lv_aload_n hx hb dX7_odds_125 rfl (lv_at hl 2 rfl) ?_
          refine a_getp (q := 112) (σ := aG r74.2) (o := 109) (T := TX7) (N := 20) C wU_X7 hw rfl (by decide) rfl 9 (by decide) rfl wF_X7_20 (aG_P rfl rfl) dX7_odds_126 ?_
          refine lv_bipush (v := (7 : Int32)) hx hb dX7_odds_129 (by decide) ?_
          refine a_iald (σ := aG r74.2) (o := 112) C hw rfl (aIn_v (by decide)) (show (7 : Int32).toNatClampNeg = 7 by decide) dX7_odds_131 ?_
          refine lv_isub hx hb dX7_odds_132 ?_
          refine lv_i2l hx hb dX7_odds_133 rfl ?_
          refine lv_lload hx hb dX7_odds_134 (lv_at hl 0 rfl) ?_
          refine lv_lmul hx hb dX7_odds_136 ?_
          refine lv_ladd hx hb dX7_odds_137 ?_
          refine lv_iload hx hb dX7_odds_138 (lv_at hl 6 rfl) ?_
          obtain ⟨r140, hr140, hM⟩ := h_b hM
          refine a_callS  (σ' := aG r140.2) (v := (some (.long r140.1))) (as := fun ad => [.long (((gI r74.2 112 7)).toInt64 * r59.1), .long ((((gI r74.2 112 7)).toInt64 * r59.1) + ((((100 : Int32) - (gI r74.2 112 7))).toInt64 * r74.1)), .int x4]) (rest := []) C hw (c_X7_terms l hr140) k_X7_terms wM_X7_254 ⟨⟨rfl, rfl⟩, ⟨Nat.le_of_ble_eq_true rfl, Nat.le_of_ble_eq_true rfl⟩⟩ rfl hl rfl (Nat.le_of_ble_eq_true rfl) dX7_odds_140 ⟨Nat.zero_le _, Nat.zero_le _⟩ (fun H locs hw => ?_)
          cases h_e hM
          exact a_lret C hw dX7_odds_143
        · replace hM := h_t hc hM
          refine lv_aload_n hx hb dX7_odds_83 rfl (lv_at hl 2 rfl) ?_
          obtain ⟨r84, hr84, hM⟩ := h_b hM
          refine a_callV (σ' := aG r84.2) (v := (some (.long r84.1))) (As := fun ad => []) (rest := []) (o := 109) C hw (c_X7_allWays l hr84) k_X7_allWays wM_X7_250 ⟨⟨rfl, rfl⟩, ⟨Nat.le_of_ble_eq_true rfl, Nat.le_of_ble_eq_true rfl⟩⟩ rfl (by decide) rfl rfl rfl hl rfl (Nat.le_of_ble_eq_true rfl) dX7_odds_84 ⟨Nat.zero_le _, Nat.zero_le _⟩ (fun H locs hw => ?_)
          refine lv_lload hx hb dX7_odds_87 (lv_at hl 1 rfl) ?_
          refine lv_lsub hx hb dX7_odds_89 ?_
          refine lv_lstore (lv' := [(5, .long (r84.1 - r59.1)), (7, .long r74.1), (0, .ref (ad 109)), (1, .int x1), (2, .int x2), (3, .int x3), (4, .int x4)]) hx hb dX7_odds_90 hl (by decide) rfl (fun ls hl => ?_)
          refine lv_aload_n hx hb dX7_odds_92 rfl (lv_at hl 2 rfl) ?_
          obtain ⟨r93, hr93, hM⟩ := h_b hM
          refine a_callV (σ' := aG r93.2) (v := (some (.long r93.1))) (As := fun ad => []) (rest := []) (o := 109) C hw (c_X7_allWays l hr93) k_X7_allWays wM_X7_250 ⟨⟨rfl, rfl⟩, ⟨Nat.le_of_ble_eq_true rfl, Nat.le_of_ble_eq_true rfl⟩⟩ rfl (by decide) rfl rfl rfl hl rfl (Nat.le_of_ble_eq_true rfl) dX7_odds_93 ⟨Nat.zero_le _, Nat.zero_le _⟩ (fun H locs hw => ?_)
          refine lv_lload hx hb dX7_odds_96 (lv_at hl 1 rfl) ?_
          refine lv_lsub hx hb dX7_odds_98 ?_
          refine lv_lstore (lv' := [(7, .long (r93.1 - r74.1)), (5, .long (r84.1 - r59.1)), (0, .ref (ad 109)), (1, .int x1), (2, .int x2), (3, .int x3), (4, .int x4)]) hx hb dX7_odds_99 hl (by decide) rfl (fun ls hl => ?_)
          refine lv_aload_n hx hb dX7_odds_101 rfl (lv_at hl 2 rfl) ?_
          refine a_getp (q := 112) (σ := aG r93.2) (o := 109) (T := TX7) (N := 20) C wU_X7 hw rfl (by decide) rfl 9 (by decide) rfl wF_X7_20 (aG_P rfl rfl) dX7_odds_102 ?_
          refine lv_bipush (v := (7 : Int32)) hx hb dX7_odds_105 (by decide) ?_
          refine a_iald (σ := aG r93.2) (o := 112) C hw rfl (aIn_v (by decide)) (show (7 : Int32).toNatClampNeg = 7 by decide) dX7_odds_107 ?_
          refine lv_i2l hx hb dX7_odds_108 rfl ?_
          refine lv_lload hx hb dX7_odds_109 (lv_at hl 1 rfl) ?_
          refine lv_lmul hx hb dX7_odds_111 ?_
          refine lv_aload_n hx hb dX7_odds_112 rfl (lv_at hl 2 rfl) ?_
          refine a_getp (q := 112) (σ := aG r93.2) (o := 109) (T := TX7) (N := 20) C wU_X7 hw rfl (by decide) rfl 9 (by decide) rfl wF_X7_20 (aG_P rfl rfl) dX7_odds_113 ?_
          refine lv_bipush (v := (7 : Int32)) hx hb dX7_odds_116 (by decide) ?_
          refine a_iald (σ := aG r93.2) (o := 112) C hw rfl (aIn_v (by decide)) (show (7 : Int32).toNatClampNeg = 7 by decide) dX7_odds_118 ?_
          refine lv_i2l hx hb dX7_odds_119 rfl ?_
          refine lv_lload hx hb dX7_odds_120 (lv_at hl 1 rfl) ?_
          refine lv_lmul hx hb dX7_odds_122 ?_
          refine lv_bipush (v := (100 : Int32)) hx hb dX7_odds_123 (by decide) ?_
          refine lv_aload_n hx hb dX7_odds_125 rfl (lv_at hl 2 rfl) ?_
          refine a_getp (q := 112) (σ := aG r93.2) (o := 109) (T := TX7) (N := 20) C wU_X7 hw rfl (by decide) rfl 9 (by decide) rfl wF_X7_20 (aG_P rfl rfl) dX7_odds_126 ?_
          refine lv_bipush (v := (7 : Int32)) hx hb dX7_odds_129 (by decide) ?_
          refine a_iald (σ := aG r93.2) (o := 112) C hw rfl (aIn_v (by decide)) (show (7 : Int32).toNatClampNeg = 7 by decide) dX7_odds_131 ?_
          refine lv_isub hx hb dX7_odds_132 ?_
          refine lv_i2l hx hb dX7_odds_133 rfl ?_
          refine lv_lload hx hb dX7_odds_134 (lv_at hl 0 rfl) ?_
          refine lv_lmul hx hb dX7_odds_136 ?_
          refine lv_ladd hx hb dX7_odds_137 ?_
          refine lv_iload hx hb dX7_odds_138 (lv_at hl 6 rfl) ?_
          obtain ⟨r140, hr140, hM⟩ := h_b hM
          refine a_callS  (σ' := aG r140.2) (v := (some (.long r140.1))) (as := fun ad => [.long (((gI r93.2 112 7)).toInt64 * (r84.1 - r59.1)), .long ((((gI r93.2 112 7)).toInt64 * (r84.1 - r59.1)) + ((((100 : Int32) - (gI r93.2 112 7))).toInt64 * (r93.1 - r74.1))), .int x4]) (rest := []) C hw (c_X7_terms l hr140) k_X7_terms wM_X7_254 ⟨⟨rfl, rfl⟩, ⟨Nat.le_of_ble_eq_true rfl, Nat.le_of_ble_eq_true rfl⟩⟩ rfl hl rfl (Nat.le_of_ble_eq_true rfl) dX7_odds_140 ⟨Nat.zero_le _, Nat.zero_le _⟩ (fun H locs hw => ?_)
          cases h_e hM
          exact a_lret C hw dX7_odds_143
      · replace hM := h_f hc hM
        refine lv_lconst (v := (0 : Int64)) hx hb dX7_odds_47 (by decide) ?_
        cases h_e hM
        exact a_lret C hw dX7_odds_48
  · replace hM := h_f hc hM
    refine lv_iload hx hb dX7_odds_13 (lv_at hl 4 rfl) ?_
    obtain ⟨r15, hr15, hM⟩ := h_b hM
    refine a_callS  (σ' := aG r15.2) (v := (some (.int r15.1))) (as := fun ad => [.int x4]) (rest := [.ref (ad 109)]) C hw (c_X7_isHalf l hr15) k_X7_isHalf wM_X7_239 ⟨⟨rfl, rfl⟩, ⟨Nat.le_of_ble_eq_true rfl, Nat.le_of_ble_eq_true rfl⟩⟩ rfl hl rfl (Nat.le_of_ble_eq_true rfl) dX7_odds_15 ⟨Nat.zero_le _, Nat.zero_le _⟩ (fun H locs hw => ?_)
    refine lv_if_ne (tgt := 25) hx hb dX7_odds_18 (by decide) (fun hc => ?_) (fun hc => ?_)
    · replace hM := h_f hc hM
      refine lv_iconst (v := (0 : Int32)) hx hb dX7_odds_25 (by decide) ?_
      refine lv_iconst (v := (1 : Int32)) hx hb dX7_odds_26 (by decide) ?_
      refine lv_iconst (v := (1 : Int32)) hx hb dX7_odds_27 (by decide) ?_
      obtain ⟨r28, hr28, hM⟩ := h_b hM
      refine a_callV (σ' := aG r28.2) (v := (some (.int r28.1))) (As := fun ad => [.int (0 : Int32), .int (1 : Int32), .int (1 : Int32)]) (rest := []) (o := 109) C hw (c_X7_bad l hr28) k_X7_bad wM_X7_164 ⟨⟨rfl, rfl⟩, ⟨Nat.le_of_ble_eq_true rfl, Nat.le_of_ble_eq_true rfl⟩⟩ rfl (by decide) rfl rfl rfl hl rfl (Nat.le_of_ble_eq_true rfl) dX7_odds_28 ⟨Nat.zero_le _, Nat.zero_le _⟩ (fun H locs hw => ?_)
      refine lv_if_ne (tgt := 47) hx hb dX7_odds_31 (by decide) (fun hc => ?_) (fun hc => ?_)
      · replace hM := h_f hc hM
        refine lv_lconst (v := (0 : Int64)) hx hb dX7_odds_47 (by decide) ?_
        cases h_e hM
        exact a_lret C hw dX7_odds_48
      · replace hM := h_t hc hM
        refine lv_aload_n hx hb dX7_odds_34 rfl (lv_at hl 0 rfl) ?_
        refine lv_aload_n hx hb dX7_odds_35 rfl (lv_at hl 0 rfl) ?_
        obtain ⟨r36, hr36, hM⟩ := h_b hM
        refine a_callV (σ' := aG r36.2) (v := (some (.int r36.1))) (As := fun ad => []) (rest := [.ref (ad 109)]) (o := 109) C hw (c_X7_isHidden l hr36) k_X7_isHidden wM_X7_272 ⟨⟨rfl, rfl⟩, ⟨Nat.le_of_ble_eq_true rfl, Nat.le_of_ble_eq_true rfl⟩⟩ rfl (by decide) rfl rfl rfl hl rfl (Nat.le_of_ble_eq_true rfl) dX7_odds_36 ⟨Nat.zero_le _, Nat.zero_le _⟩ (fun H locs hw => ?_)
        refine lv_iconst (v := (2 : Int32)) hx hb dX7_odds_39 (by decide) ?_
        refine lv_iconst (v := (2 : Int32)) hx hb dX7_odds_40 (by decide) ?_
        obtain ⟨r41, hr41, hM⟩ := h_b hM
        refine a_callV (σ' := aG r41.2) (v := (some (.int r41.1))) (As := fun ad => [.int r36.1, .int (2 : Int32), .int (2 : Int32)]) (rest := []) (o := 109) C hw (c_X7_bad l hr41) k_X7_bad wM_X7_164 ⟨⟨rfl, rfl⟩, ⟨Nat.le_of_ble_eq_true rfl, Nat.le_of_ble_eq_true rfl⟩⟩ rfl (by decide) rfl rfl rfl hl rfl (Nat.le_of_ble_eq_true rfl) dX7_odds_41 ⟨Nat.zero_le _, Nat.zero_le _⟩ (fun H locs hw => ?_)
        refine lv_if_eq (tgt := 49) hx hb dX7_odds_44 (by decide) (fun hc => ?_) (fun hc => ?_)
        · replace hM := h_t hc hM
          refine lv_aload_n hx hb dX7_odds_49 rfl (lv_at hl 0 rfl) ?_
          refine lv_iload_n hx hb dX7_odds_50 rfl (lv_at hl 1 rfl) ?_
          refine lv_iconst (v := (1 : Int32)) hx hb dX7_odds_51 (by decide) ?_
          refine lv_iload_n hx hb dX7_odds_52 rfl (lv_at hl 2 rfl) ?_
          refine lv_aload_n hx hb dX7_odds_53 rfl (lv_at hl 0 rfl) ?_
          refine a_getp (q := 112) (σ := aG r41.2) (o := 109) (T := TX7) (N := 20) C wU_X7 hw rfl (by decide) rfl 9 (by decide) rfl wF_X7_20 (aG_P rfl rfl) dX7_odds_54 ?_
          refine lv_iconst (v := (5 : Int32)) hx hb dX7_odds_57 (by decide) ?_
          refine a_iald (σ := aG r41.2) (o := 112) C hw rfl (aIn_v (by decide)) (show (5 : Int32).toNatClampNeg = 5 by decide) dX7_odds_58 ?_
          obtain ⟨r59, hr59, hM⟩ := h_b hM
          refine a_callV (σ' := aG r59.2) (v := (some (.long r59.1))) (As := fun ad => [.int x1, .int (1 : Int32), .int x2, .int (gI r41.2 112 5)]) (rest := []) (o := 109) C hw (c_X7_suspectBy l hr59) k_X7_suspectBy wM_X7_275 ⟨⟨rfl, rfl⟩, ⟨Nat.le_of_ble_eq_true rfl, Nat.le_of_ble_eq_true rfl⟩⟩ rfl (by decide) rfl rfl rfl hl rfl (Nat.le_of_ble_eq_true rfl) dX7_odds_59 ⟨Nat.zero_le _, Nat.zero_le _⟩ (fun H locs hw => ?_)
          refine lv_lstore (lv' := [(5, .long r59.1), (0, .ref (ad 109)), (1, .int x1), (2, .int x2), (3, .int x3), (4, .int x4)]) hx hb dX7_odds_62 hl (by decide) rfl (fun ls hl => ?_)
          refine lv_aload_n hx hb dX7_odds_64 rfl (lv_at hl 1 rfl) ?_
          refine lv_iload_n hx hb dX7_odds_65 rfl (lv_at hl 2 rfl) ?_
          refine lv_iconst (v := (0 : Int32)) hx hb dX7_odds_66 (by decide) ?_
          refine lv_iload_n hx hb dX7_odds_67 rfl (lv_at hl 3 rfl) ?_
          refine lv_aload_n hx hb dX7_odds_68 rfl (lv_at hl 1 rfl) ?_
          refine a_getp (q := 112) (σ := aG r59.2) (o := 109) (T := TX7) (N := 20) C wU_X7 hw rfl (by decide) rfl 9 (by decide) rfl wF_X7_20 (aG_P rfl rfl) dX7_odds_69 ?_
          refine lv_iconst (v := (5 : Int32)) hx hb dX7_odds_72 (by decide) ?_
          refine a_iald (σ := aG r59.2) (o := 112) C hw rfl (aIn_v (by decide)) (show (5 : Int32).toNatClampNeg = 5 by decide) dX7_odds_73 ?_
          obtain ⟨r74, hr74, hM⟩ := h_b hM
          refine a_callV (σ' := aG r74.2) (v := (some (.long r74.1))) (As := fun ad => [.int x1, .int (0 : Int32), .int x2, .int (gI r59.2 112 5)]) (rest := []) (o := 109) C hw (c_X7_suspectBy l hr74) k_X7_suspectBy wM_X7_275 ⟨⟨rfl, rfl⟩, ⟨Nat.le_of_ble_eq_true rfl, Nat.le_of_ble_eq_true rfl⟩⟩ rfl (by decide) rfl rfl rfl hl rfl (Nat.le_of_ble_eq_true rfl) dX7_odds_74 ⟨Nat.zero_le _, Nat.zero_le _⟩ (fun H locs hw => ?_)
          refine lv_lstore (lv' := [(7, .long r74.1), (5, .long r59.1), (0, .ref (ad 109)), (1, .int x1), (2, .int x2), (3, .int x3), (4, .int x4)]) hx hb dX7_odds_77 hl (by decide) rfl (fun ls hl => ?_)
          refine lv_iload_n hx hb dX7_odds_79 rfl (lv_at hl 5 rfl) ?_
          refine lv_if_ne (tgt := 101) hx hb dX7_odds_80 (by decide) (fun hc => ?_) (fun hc => ?_)
          · replace hM := h_f hc hM
            refine lv_aload_n hx hb dX7_odds_101 rfl (lv_at hl 2 rfl) ?_
            refine a_getp (q := 112) (σ := aG r74.2) (o := 109) (T := TX7) (N := 20) C wU_X7 hw rfl (by decide) rfl 9 (by decide) rfl wF_X7_20 (aG_P rfl rfl) dX7_odds_102 ?_
            refine lv_bipush (v := (7 : Int32)) hx hb dX7_odds_105 (by decide) ?_
            refine a_iald (σ := aG r74.2) (o := 112) C hw rfl (aIn_v (by decide)) (show (7 : Int32).toNatClampNeg = 7 by decide) dX7_odds_107 ?_
            refine lv_i2l hx hb dX7_odds_108 rfl ?_
            refine lv_lload hx hb dX7_odds_109 (lv_at hl 1 rfl) ?_
            refine lv_lmul hx hb dX7_odds_111 ?_
            refine lv_aload_n hx hb dX7_odds_112 rfl (lv_at hl 2 rfl) ?_
            refine a_getp (q := 112) (σ := aG r74.2) (o := 109) (T := TX7) (N := 20) C wU_X7 hw rfl (by decide) rfl 9 (by decide) rfl wF_X7_20 (aG_P rfl rfl) dX7_odds_113 ?_
            refine lv_bipush (v := (7 : Int32)) hx hb dX7_odds_116 (by decide) ?_
            refine a_iald (σ := aG r74.2) (o := 112) C hw rfl (aIn_v (by decide)) (show (7 : Int32).toNatClampNeg = 7 by decide) dX7_odds_118 ?_
            refine lv_i2l hx hb dX7_odds_119 rfl ?_
            refine lv_lload hx hb dX7_odds_120 (lv_at hl 1 rfl) ?_
            refine lv_lmul hx hb dX7_odds_122 ?_
            refine lv_bipush (v := (100 : Int32)) hx hb dX7_odds_123 (by decide) ?_
            refine lv_aload_n hx hb dX7_odds_125 rfl (lv_at hl 2 rfl) ?_
            refine a_getp (q := 112) (σ := aG r74.2) (o := 109) (T := TX7) (N := 20) C wU_X7 hw rfl (by decide) rfl 9 (by decide) rfl wF_X7_20 (aG_P rfl rfl) dX7_odds_126 ?_
            refine lv_bipush (v := (7 : Int32)) hx hb dX7_odds_129 (by decide) ?_
            refine a_iald (σ := aG r74.2) (o := 112) C hw rfl (aIn_v (by decide)) (show (7 : Int32).toNatClampNeg = 7 by decide) dX7_odds_131 ?_
            refine lv_isub hx hb dX7_odds_132 ?_
            refine lv_i2l hx hb dX7_odds_133 rfl ?_
            refine lv_lload hx hb dX7_odds_134 (lv_at hl 0 rfl) ?_
            refine lv_lmul hx hb dX7_odds_136 ?_
            refine lv_ladd hx hb dX7_odds_137 ?_
            refine lv_iload hx hb dX7_odds_138 (lv_at hl 6 rfl) ?_
            obtain ⟨r140, hr140, hM⟩ := h_b hM
            refine a_callS  (σ' := aG r140.2) (v := (some (.long r140.1))) (as := fun ad => [.long (((gI r74.2 112 7)).toInt64 * r59.1), .long ((((gI r74.2 112 7)).toInt64 * r59.1) + ((((100 : Int32) - (gI r74.2 112 7))).toInt64 * r74.1)), .int x4]) (rest := []) C hw (c_X7_terms l hr140) k_X7_terms wM_X7_254 ⟨⟨rfl, rfl⟩, ⟨Nat.le_of_ble_eq_true rfl, Nat.le_of_ble_eq_true rfl⟩⟩ rfl hl rfl (Nat.le_of_ble_eq_true rfl) dX7_odds_140 ⟨Nat.zero_le _, Nat.zero_le _⟩ (fun H locs hw => ?_)
            cases h_e hM
            exact a_lret C hw dX7_odds_143
          · replace hM := h_t hc hM
            refine lv_aload_n hx hb dX7_odds_83 rfl (lv_at hl 2 rfl) ?_
            obtain ⟨r84, hr84, hM⟩ := h_b hM
            refine a_callV (σ' := aG r84.2) (v := (some (.long r84.1))) (As := fun ad => []) (rest := []) (o := 109) C hw (c_X7_allWays l hr84) k_X7_allWays wM_X7_250 ⟨⟨rfl, rfl⟩, ⟨Nat.le_of_ble_eq_true rfl, Nat.le_of_ble_eq_true rfl⟩⟩ rfl (by decide) rfl rfl rfl hl rfl (Nat.le_of_ble_eq_true rfl) dX7_odds_84 ⟨Nat.zero_le _, Nat.zero_le _⟩ (fun H locs hw => ?_)
            refine lv_lload hx hb dX7_odds_87 (lv_at hl 1 rfl) ?_
            refine lv_lsub hx hb dX7_odds_89 ?_
            refine lv_lstore (lv' := [(5, .long (r84.1 - r59.1)), (7, .long r74.1), (0, .ref (ad 109)), (1, .int x1), (2, .int x2), (3, .int x3), (4, .int x4)]) hx hb dX7_odds_90 hl (by decide) rfl (fun ls hl => ?_)
            refine lv_aload_n hx hb dX7_odds_92 rfl (lv_at hl 2 rfl) ?_
            obtain ⟨r93, hr93, hM⟩ := h_b hM
            refine a_callV (σ' := aG r93.2) (v := (some (.long r93.1))) (As := fun ad => []) (rest := []) (o := 109) C hw (c_X7_allWays l hr93) k_X7_allWays wM_X7_250 ⟨⟨rfl, rfl⟩, ⟨Nat.le_of_ble_eq_true rfl, Nat.le_of_ble_eq_true rfl⟩⟩ rfl (by decide) rfl rfl rfl hl rfl (Nat.le_of_ble_eq_true rfl) dX7_odds_93 ⟨Nat.zero_le _, Nat.zero_le _⟩ (fun H locs hw => ?_)
            refine lv_lload hx hb dX7_odds_96 (lv_at hl 1 rfl) ?_
            refine lv_lsub hx hb dX7_odds_98 ?_
            refine lv_lstore (lv' := [(7, .long (r93.1 - r74.1)), (5, .long (r84.1 - r59.1)), (0, .ref (ad 109)), (1, .int x1), (2, .int x2), (3, .int x3), (4, .int x4)]) hx hb dX7_odds_99 hl (by decide) rfl (fun ls hl => ?_)
            refine lv_aload_n hx hb dX7_odds_101 rfl (lv_at hl 2 rfl) ?_
            refine a_getp (q := 112) (σ := aG r93.2) (o := 109) (T := TX7) (N := 20) C wU_X7 hw rfl (by decide) rfl 9 (by decide) rfl wF_X7_20 (aG_P rfl rfl) dX7_odds_102 ?_
            refine lv_bipush (v := (7 : Int32)) hx hb dX7_odds_105 (by decide) ?_
            refine a_iald (σ := aG r93.2) (o := 112) C hw rfl (aIn_v (by decide)) (show (7 : Int32).toNatClampNeg = 7 by decide) dX7_odds_107 ?_
            refine lv_i2l hx hb dX7_odds_108 rfl ?_
            refine lv_lload hx hb dX7_odds_109 (lv_at hl 1 rfl) ?_
            refine lv_lmul hx hb dX7_odds_111 ?_
            refine lv_aload_n hx hb dX7_odds_112 rfl (lv_at hl 2 rfl) ?_
            refine a_getp (q := 112) (σ := aG r93.2) (o := 109) (T := TX7) (N := 20) C wU_X7 hw rfl (by decide) rfl 9 (by decide) rfl wF_X7_20 (aG_P rfl rfl) dX7_odds_113 ?_
            refine lv_bipush (v := (7 : Int32)) hx hb dX7_odds_116 (by decide) ?_
            refine a_iald (σ := aG r93.2) (o := 112) C hw rfl (aIn_v (by decide)) (show (7 : Int32).toNatClampNeg = 7 by decide) dX7_odds_118 ?_
            refine lv_i2l hx hb dX7_odds_119 rfl ?_
            refine lv_lload hx hb dX7_odds_120 (lv_at hl 1 rfl) ?_
            refine lv_lmul hx hb dX7_odds_122 ?_
            refine lv_bipush (v := (100 : Int32)) hx hb dX7_odds_123 (by decide) ?_
            refine lv_aload_n hx hb dX7_odds_125 rfl (lv_at hl 2 rfl) ?_
            refine a_getp (q := 112) (σ := aG r93.2) (o := 109) (T := TX7) (N := 20) C wU_X7 hw rfl (by decide) rfl 9 (by decide) rfl wF_X7_20 (aG_P rfl rfl) dX7_odds_126 ?_
            refine lv_bipush (v := (7 : Int32)) hx hb dX7_odds_129 (by decide) ?_
            refine a_iald (σ := aG r93.2) (o := 112) C hw rfl (aIn_v (by decide)) (show (7 : Int32).toNatClampNeg = 7 by decide) dX7_odds_131 ?_
            refine lv_isub hx hb dX7_odds_132 ?_
            refine lv_i2l hx hb dX7_odds_133 rfl ?_
            refine lv_lload hx hb dX7_odds_134 (lv_at hl 0 rfl) ?_
            refine lv_lmul hx hb dX7_odds_136 ?_
            refine lv_ladd hx hb dX7_odds_137 ?_
            refine lv_iload hx hb dX7_odds_138 (lv_at hl 6 rfl) ?_
            obtain ⟨r140, hr140, hM⟩ := h_b hM
            refine a_callS  (σ' := aG r140.2) (v := (some (.long r140.1))) (as := fun ad => [.long (((gI r93.2 112 7)).toInt64 * (r84.1 - r59.1)), .long ((((gI r93.2 112 7)).toInt64 * (r84.1 - r59.1)) + ((((100 : Int32) - (gI r93.2 112 7))).toInt64 * (r93.1 - r74.1))), .int x4]) (rest := []) C hw (c_X7_terms l hr140) k_X7_terms wM_X7_254 ⟨⟨rfl, rfl⟩, ⟨Nat.le_of_ble_eq_true rfl, Nat.le_of_ble_eq_true rfl⟩⟩ rfl hl rfl (Nat.le_of_ble_eq_true rfl) dX7_odds_140 ⟨Nat.zero_le _, Nat.zero_le _⟩ (fun H locs hw => ?_)
            cases h_e hM
            exact a_lret C hw dX7_odds_143
        · replace hM := h_f hc hM
          refine lv_lconst (v := (0 : Int64)) hx hb dX7_odds_47 (by decide) ?_
          cases h_e hM
          exact a_lret C hw dX7_odds_48
    · replace hM := h_t hc hM
      refine lv_iconst (v := (1 : Int32)) hx hb dX7_odds_21 (by decide) ?_
      refine lv_goto (tgt := 26) hx hb dX7_odds_22 (by decide) ?_
      refine lv_iconst (v := (1 : Int32)) hx hb dX7_odds_26 (by decide) ?_
      refine lv_iconst (v := (1 : Int32)) hx hb dX7_odds_27 (by decide) ?_
      obtain ⟨r28, hr28, hM⟩ := h_b hM
      refine a_callV (σ' := aG r28.2) (v := (some (.int r28.1))) (As := fun ad => [.int (1 : Int32), .int (1 : Int32), .int (1 : Int32)]) (rest := []) (o := 109) C hw (c_X7_bad l hr28) k_X7_bad wM_X7_164 ⟨⟨rfl, rfl⟩, ⟨Nat.le_of_ble_eq_true rfl, Nat.le_of_ble_eq_true rfl⟩⟩ rfl (by decide) rfl rfl rfl hl rfl (Nat.le_of_ble_eq_true rfl) dX7_odds_28 ⟨Nat.zero_le _, Nat.zero_le _⟩ (fun H locs hw => ?_)
      refine lv_if_ne (tgt := 47) hx hb dX7_odds_31 (by decide) (fun hc => ?_) (fun hc => ?_)
      · replace hM := h_f hc hM
        refine lv_lconst (v := (0 : Int64)) hx hb dX7_odds_47 (by decide) ?_
        cases h_e hM
        exact a_lret C hw dX7_odds_48
      · replace hM := h_t hc hM
        refine lv_aload_n hx hb dX7_odds_34 rfl (lv_at hl 0 rfl) ?_
        refine lv_aload_n hx hb dX7_odds_35 rfl (lv_at hl 0 rfl) ?_
        obtain ⟨r36, hr36, hM⟩ := h_b hM
        refine a_callV (σ' := aG r36.2) (v := (some (.int r36.1))) (As := fun ad => []) (rest := [.ref (ad 109)]) (o := 109) C hw (c_X7_isHidden l hr36) k_X7_isHidden wM_X7_272 ⟨⟨rfl, rfl⟩, ⟨Nat.le_of_ble_eq_true rfl, Nat.le_of_ble_eq_true rfl⟩⟩ rfl (by decide) rfl rfl rfl hl rfl (Nat.le_of_ble_eq_true rfl) dX7_odds_36 ⟨Nat.zero_le _, Nat.zero_le _⟩ (fun H locs hw => ?_)
        refine lv_iconst (v := (2 : Int32)) hx hb dX7_odds_39 (by decide) ?_
        refine lv_iconst (v := (2 : Int32)) hx hb dX7_odds_40 (by decide) ?_
        obtain ⟨r41, hr41, hM⟩ := h_b hM
        refine a_callV (σ' := aG r41.2) (v := (some (.int r41.1))) (As := fun ad => [.int r36.1, .int (2 : Int32), .int (2 : Int32)]) (rest := []) (o := 109) C hw (c_X7_bad l hr41) k_X7_bad wM_X7_164 ⟨⟨rfl, rfl⟩, ⟨Nat.le_of_ble_eq_true rfl, Nat.le_of_ble_eq_true rfl⟩⟩ rfl (by decide) rfl rfl rfl hl rfl (Nat.le_of_ble_eq_true rfl) dX7_odds_41 ⟨Nat.zero_le _, Nat.zero_le _⟩ (fun H locs hw => ?_)
        refine lv_if_eq (tgt := 49) hx hb dX7_odds_44 (by decide) (fun hc => ?_) (fun hc => ?_)
        · replace hM := h_t hc hM
          refine lv_aload_n hx hb dX7_odds_49 rfl (lv_at hl 0 rfl) ?_
          refine lv_iload_n hx hb dX7_odds_50 rfl (lv_at hl 1 rfl) ?_
          refine lv_iconst (v := (1 : Int32)) hx hb dX7_odds_51 (by decide) ?_
          refine lv_iload_n hx hb dX7_odds_52 rfl (lv_at hl 2 rfl) ?_
          refine lv_aload_n hx hb dX7_odds_53 rfl (lv_at hl 0 rfl) ?_
          refine a_getp (q := 112) (σ := aG r41.2) (o := 109) (T := TX7) (N := 20) C wU_X7 hw rfl (by decide) rfl 9 (by decide) rfl wF_X7_20 (aG_P rfl rfl) dX7_odds_54 ?_
          refine lv_iconst (v := (5 : Int32)) hx hb dX7_odds_57 (by decide) ?_
          refine a_iald (σ := aG r41.2) (o := 112) C hw rfl (aIn_v (by decide)) (show (5 : Int32).toNatClampNeg = 5 by decide) dX7_odds_58 ?_
          obtain ⟨r59, hr59, hM⟩ := h_b hM
          refine a_callV (σ' := aG r59.2) (v := (some (.long r59.1))) (As := fun ad => [.int x1, .int (1 : Int32), .int x2, .int (gI r41.2 112 5)]) (rest := []) (o := 109) C hw (c_X7_suspectBy l hr59) k_X7_suspectBy wM_X7_275 ⟨⟨rfl, rfl⟩, ⟨Nat.le_of_ble_eq_true rfl, Nat.le_of_ble_eq_true rfl⟩⟩ rfl (by decide) rfl rfl rfl hl rfl (Nat.le_of_ble_eq_true rfl) dX7_odds_59 ⟨Nat.zero_le _, Nat.zero_le _⟩ (fun H locs hw => ?_)
          refine lv_lstore (lv' := [(5, .long r59.1), (0, .ref (ad 109)), (1, .int x1), (2, .int x2), (3, .int x3), (4, .int x4)]) hx hb dX7_odds_62 hl (by decide) rfl (fun ls hl => ?_)
          refine lv_aload_n hx hb dX7_odds_64 rfl (lv_at hl 1 rfl) ?_
          refine lv_iload_n hx hb dX7_odds_65 rfl (lv_at hl 2 rfl) ?_
          refine lv_iconst (v := (0 : Int32)) hx hb dX7_odds_66 (by decide) ?_
          refine lv_iload_n hx hb dX7_odds_67 rfl (lv_at hl 3 rfl) ?_
          refine lv_aload_n hx hb dX7_odds_68 rfl (lv_at hl 1 rfl) ?_
          refine a_getp (q := 112) (σ := aG r59.2) (o := 109) (T := TX7) (N := 20) C wU_X7 hw rfl (by decide) rfl 9 (by decide) rfl wF_X7_20 (aG_P rfl rfl) dX7_odds_69 ?_
          refine lv_iconst (v := (5 : Int32)) hx hb dX7_odds_72 (by decide) ?_
          refine a_iald (σ := aG r59.2) (o := 112) C hw rfl (aIn_v (by decide)) (show (5 : Int32).toNatClampNeg = 5 by decide) dX7_odds_73 ?_
          obtain ⟨r74, hr74, hM⟩ := h_b hM
          refine a_callV (σ' := aG r74.2) (v := (some (.long r74.1))) (As := fun ad => [.int x1, .int (0 : Int32), .int x2, .int (gI r59.2 112 5)]) (rest := []) (o := 109) C hw (c_X7_suspectBy l hr74) k_X7_suspectBy wM_X7_275 ⟨⟨rfl, rfl⟩, ⟨Nat.le_of_ble_eq_true rfl, Nat.le_of_ble_eq_true rfl⟩⟩ rfl (by decide) rfl rfl rfl hl rfl (Nat.le_of_ble_eq_true rfl) dX7_odds_74 ⟨Nat.zero_le _, Nat.zero_le _⟩ (fun H locs hw => ?_)
          refine lv_lstore (lv' := [(7, .long r74.1), (5, .long r59.1), (0, .ref (ad 109)), (1, .int x1), (2, .int x2), (3, .int x3), (4, .int x4)]) hx hb dX7_odds_77 hl (by decide) rfl (fun ls hl => ?_)
          refine lv_iload_n hx hb dX7_odds_79 rfl (lv_at hl 5 rfl) ?_
          refine lv_if_ne (tgt := 101) hx hb dX7_odds_80 (by decide) (fun hc => ?_) (fun hc => ?_)
          · replace hM := h_f hc hM
            refine lv_aload_n hx hb dX7_odds_101 rfl (lv_at hl 2 rfl) ?_
            refine a_getp (q := 112) (σ := aG r74.2) (o := 109) (T := TX7) (N := 20) C wU_X7 hw rfl (by decide) rfl 9 (by decide) rfl wF_X7_20 (aG_P rfl rfl) dX7_odds_102 ?_
            refine lv_bipush (v := (7 : Int32)) hx hb dX7_odds_105 (by decide) ?_
            refine a_iald (σ := aG r74.2) (o := 112) C hw rfl (aIn_v (by decide)) (show (7 : Int32).toNatClampNeg = 7 by decide) dX7_odds_107 ?_
            refine lv_i2l hx hb dX7_odds_108 rfl ?_
            refine lv_lload hx hb dX7_odds_109 (lv_at hl 1 rfl) ?_
            refine lv_lmul hx hb dX7_odds_111 ?_
            refine lv_aload_n hx hb dX7_odds_112 rfl (lv_at hl 2 rfl) ?_
            refine a_getp (q := 112) (σ := aG r74.2) (o := 109) (T := TX7) (N := 20) C wU_X7 hw rfl (by decide) rfl 9 (by decide) rfl wF_X7_20 (aG_P rfl rfl) dX7_odds_113 ?_
            refine lv_bipush (v := (7 : Int32)) hx hb dX7_odds_116 (by decide) ?_
            refine a_iald (σ := aG r74.2) (o := 112) C hw rfl (aIn_v (by decide)) (show (7 : Int32).toNatClampNeg = 7 by decide) dX7_odds_118 ?_
            refine lv_i2l hx hb dX7_odds_119 rfl ?_
            refine lv_lload hx hb dX7_odds_120 (lv_at hl 1 rfl) ?_
            refine lv_lmul hx hb dX7_odds_122 ?_
            refine lv_bipush (v := (100 : Int32)) hx hb dX7_odds_123 (by decide) ?_
            refine lv_aload_n hx hb dX7_odds_125 rfl (lv_at hl 2 rfl) ?_
            refine a_getp (q := 112) (σ := aG r74.2) (o := 109) (T := TX7) (N := 20) C wU_X7 hw rfl (by decide) rfl 9 (by decide) rfl wF_X7_20 (aG_P rfl rfl) dX7_odds_126 ?_
            refine lv_bipush (v := (7 : Int32)) hx hb dX7_odds_129 (by decide) ?_
            refine a_iald (σ := aG r74.2) (o := 112) C hw rfl (aIn_v (by decide)) (show (7 : Int32).toNatClampNeg = 7 by decide) dX7_odds_131 ?_
            refine lv_isub hx hb dX7_odds_132 ?_
            refine lv_i2l hx hb dX7_odds_133 rfl ?_
            refine lv_lload hx hb dX7_odds_134 (lv_at hl 0 rfl) ?_
            refine lv_lmul hx hb dX7_odds_136 ?_
            refine lv_ladd hx hb dX7_odds_137 ?_
            refine lv_iload hx hb dX7_odds_138 (lv_at hl 6 rfl) ?_
            obtain ⟨r140, hr140, hM⟩ := h_b hM
            refine a_callS  (σ' := aG r140.2) (v := (some (.long r140.1))) (as := fun ad => [.long (((gI r74.2 112 7)).toInt64 * r59.1), .long ((((gI r74.2 112 7)).toInt64 * r59.1) + ((((100 : Int32) - (gI r74.2 112 7))).toInt64 * r74.1)), .int x4]) (rest := []) C hw (c_X7_terms l hr140) k_X7_terms wM_X7_254 ⟨⟨rfl, rfl⟩, ⟨Nat.le_of_ble_eq_true rfl, Nat.le_of_ble_eq_true rfl⟩⟩ rfl hl rfl (Nat.le_of_ble_eq_true rfl) dX7_odds_140 ⟨Nat.zero_le _, Nat.zero_le _⟩ (fun H locs hw => ?_)
            cases h_e hM
            exact a_lret C hw dX7_odds_143
          · replace hM := h_t hc hM
            refine lv_aload_n hx hb dX7_odds_83 rfl (lv_at hl 2 rfl) ?_
            obtain ⟨r84, hr84, hM⟩ := h_b hM
            refine a_callV (σ' := aG r84.2) (v := (some (.long r84.1))) (As := fun ad => []) (rest := []) (o := 109) C hw (c_X7_allWays l hr84) k_X7_allWays wM_X7_250 ⟨⟨rfl, rfl⟩, ⟨Nat.le_of_ble_eq_true rfl, Nat.le_of_ble_eq_true rfl⟩⟩ rfl (by decide) rfl rfl rfl hl rfl (Nat.le_of_ble_eq_true rfl) dX7_odds_84 ⟨Nat.zero_le _, Nat.zero_le _⟩ (fun H locs hw => ?_)
            refine lv_lload hx hb dX7_odds_87 (lv_at hl 1 rfl) ?_
            refine lv_lsub hx hb dX7_odds_89 ?_
            refine lv_lstore (lv' := [(5, .long (r84.1 - r59.1)), (7, .long r74.1), (0, .ref (ad 109)), (1, .int x1), (2, .int x2), (3, .int x3), (4, .int x4)]) hx hb dX7_odds_90 hl (by decide) rfl (fun ls hl => ?_)
            refine lv_aload_n hx hb dX7_odds_92 rfl (lv_at hl 2 rfl) ?_
            obtain ⟨r93, hr93, hM⟩ := h_b hM
            refine a_callV (σ' := aG r93.2) (v := (some (.long r93.1))) (As := fun ad => []) (rest := []) (o := 109) C hw (c_X7_allWays l hr93) k_X7_allWays wM_X7_250 ⟨⟨rfl, rfl⟩, ⟨Nat.le_of_ble_eq_true rfl, Nat.le_of_ble_eq_true rfl⟩⟩ rfl (by decide) rfl rfl rfl hl rfl (Nat.le_of_ble_eq_true rfl) dX7_odds_93 ⟨Nat.zero_le _, Nat.zero_le _⟩ (fun H locs hw => ?_)
            refine lv_lload hx hb dX7_odds_96 (lv_at hl 1 rfl) ?_
            refine lv_lsub hx hb dX7_odds_98 ?_
            refine lv_lstore (lv' := [(7, .long (r93.1 - r74.1)), (5, .long (r84.1 - r59.1)), (0, .ref (ad 109)), (1, .int x1), (2, .int x2), (3, .int x3), (4, .int x4)]) hx hb dX7_odds_99 hl (by decide) rfl (fun ls hl => ?_)
            refine lv_aload_n hx hb dX7_odds_101 rfl (lv_at hl 2 rfl) ?_
            refine a_getp (q := 112) (σ := aG r93.2) (o := 109) (T := TX7) (N := 20) C wU_X7 hw rfl (by decide) rfl 9 (by decide) rfl wF_X7_20 (aG_P rfl rfl) dX7_odds_102 ?_
            refine lv_bipush (v := (7 : Int32)) hx hb dX7_odds_105 (by decide) ?_
            refine a_iald (σ := aG r93.2) (o := 112) C hw rfl (aIn_v (by decide)) (show (7 : Int32).toNatClampNeg = 7 by decide) dX7_odds_107 ?_
            refine lv_i2l hx hb dX7_odds_108 rfl ?_
            refine lv_lload hx hb dX7_odds_109 (lv_at hl 1 rfl) ?_
            refine lv_lmul hx hb dX7_odds_111 ?_
            refine lv_aload_n hx hb dX7_odds_112 rfl (lv_at hl 2 rfl) ?_
            refine a_getp (q := 112) (σ := aG r93.2) (o := 109) (T := TX7) (N := 20) C wU_X7 hw rfl (by decide) rfl 9 (by decide) rfl wF_X7_20 (aG_P rfl rfl) dX7_odds_113 ?_
            refine lv_bipush (v := (7 : Int32)) hx hb dX7_odds_116 (by decide) ?_
            refine a_iald (σ := aG r93.2) (o := 112) C hw rfl (aIn_v (by decide)) (show (7 : Int32).toNatClampNeg = 7 by decide) dX7_odds_118 ?_
            refine lv_i2l hx hb dX7_odds_119 rfl ?_
            refine lv_lload hx hb dX7_odds_120 (lv_at hl 1 rfl) ?_
            refine lv_lmul hx hb dX7_odds_122 ?_
            refine lv_bipush (v := (100 : Int32)) hx hb dX7_odds_123 (by decide) ?_
            refine lv_aload_n hx hb dX7_odds_125 rfl (lv_at hl 2 rfl) ?_
            refine a_getp (q := 112) (σ := aG r93.2) (o := 109) (T := TX7) (N := 20) C wU_X7 hw rfl (by decide) rfl 9 (by decide) rfl wF_X7_20 (aG_P rfl rfl) dX7_odds_126 ?_
            refine lv_bipush (v := (7 : Int32)) hx hb dX7_odds_129 (by decide) ?_
            refine a_iald (σ := aG r93.2) (o := 112) C hw rfl (aIn_v (by decide)) (show (7 : Int32).toNatClampNeg = 7 by decide) dX7_odds_131 ?_
            refine lv_isub hx hb dX7_odds_132 ?_
            refine lv_i2l hx hb dX7_odds_133 rfl ?_
            refine lv_lload hx hb dX7_odds_134 (lv_at hl 0 rfl) ?_
            refine lv_lmul hx hb dX7_odds_136 ?_
            refine lv_ladd hx hb dX7_odds_137 ?_
            refine lv_iload hx hb dX7_odds_138 (lv_at hl 6 rfl) ?_
            obtain ⟨r140, hr140, hM⟩ := h_b hM
            refine a_callS  (σ' := aG r140.2) (v := (some (.long r140.1))) (as := fun ad => [.long (((gI r93.2 112 7)).toInt64 * (r84.1 - r59.1)), .long ((((gI r93.2 112 7)).toInt64 * (r84.1 - r59.1)) + ((((100 : Int32) - (gI r93.2 112 7))).toInt64 * (r93.1 - r74.1))), .int x4]) (rest := []) C hw (c_X7_terms l hr140) k_X7_terms wM_X7_254 ⟨⟨rfl, rfl⟩, ⟨Nat.le_of_ble_eq_true rfl, Nat.le_of_ble_eq_true rfl⟩⟩ rfl hl rfl (Nat.le_of_ble_eq_true rfl) dX7_odds_140 ⟨Nat.zero_le _, Nat.zero_le _⟩ (fun H locs hw => ?_)
            cases h_e hM
            exact a_lret C hw dX7_odds_143
        · replace hM := h_f hc hM
          refine lv_lconst (v := (0 : Int64)) hx hb dX7_odds_47 (by decide) ?_
          cases h_e hM
          exact a_lret C hw dX7_odds_48
def rm_X7_cut : Room := { frames := 6, cells := 0, slots := 0, locals := 147 }
set_option maxHeartbeats 4000000 in
set_option maxRecDepth 100000 in
theorem tl_X7_cut_48 (l : Launch) {p : Program} {e : Env} {s : State} {m : MethodId} {args : Array Value} {below : List Frame} {meth : Method} {c : Code} {D : va_G} {dA : Nat → ClassId} {ad adV : Nat → Nat} {A : Nat → Prop} (C : aX p m c cX7_cut 8 s args aTs RX7 meth (some .int)) {res : Int32 × iS} : ∀ (n : Nat) (y1 : Int32) (y2 : Int32) (y3 : Int64) (y5 : Int32) {ι : iS}, l_X7_cut_48 n y1 y2 y3 y5 ι = some res → ∀ {H : Heap} {locs : List Loc} {ls : Array Slot}, aW D dA ad adV (aG ι) A s H locs → lv_has ls 8 [(0, .ref (ad 109)), (1, .int y1), (2, .int y2), (3, .long y3), (5, .int y5)] → W p l e rm_X7_cut s m args below meth c H locs 0 0 (MQ below (aQ D dA ad (aG res.2) A (some (.int res.1))) args s 0 0 A) (F0 m 48 ls []) := by
  have hx := C.1.1
  have hb := C.1.2.1
  have hml := C.1.2.2.1
  have hown := C.1.2.2.2.1
  have hts := C.1.2.2.2.2
  intro n
  induction n with
  | zero => intro y1 y2 y3 y5 ι hM; simp [l_X7_cut_48] at hM
  | succ n ih =>
    intro y1 y2 y3 y5 ι hM H locs ls hw hl
    rw [l_X7_cut_48] at hM
    refine lv_iload hx hb dX7_cut_48 (lv_at hl 4 rfl) ?_
    refine lv_bipush (v := (120 : Int32)) hx hb dX7_cut_50 (by decide) ?_
    refine lv_icmp_gt (tgt := 103) hx hb dX7_cut_52 (by decide) (fun hc => ?_) (fun hc => ?_)
    · replace hM := h_t hc hM
      refine lv_iload_n hx hb dX7_cut_103 rfl (lv_at hl 2 rfl) ?_
      cases h_e hM
      exact a_iret C hw dX7_cut_104
    · replace hM := h_f hc hM
      refine lv_aload_n hx hb dX7_cut_55 rfl (lv_at hl 0 rfl) ?_
      refine lv_iload_n hx hb dX7_cut_56 rfl (lv_at hl 1 rfl) ?_
      refine lv_iconst (v := (1 : Int32)) hx hb dX7_cut_57 (by decide) ?_
      refine lv_iconst (v := (1 : Int32)) hx hb dX7_cut_58 (by decide) ?_
      refine lv_iload hx hb dX7_cut_59 (lv_at hl 4 rfl) ?_
      obtain ⟨r61, hr61, hM⟩ := h_b hM
      refine a_callV (σ' := aG r61.2) (v := (some (.long r61.1))) (As := fun ad => [.int y1, .int (1 : Int32), .int (1 : Int32), .int y5]) (rest := []) (o := 109) C hw (c_X7_suspectBy l hr61) k_X7_suspectBy wM_X7_275 ⟨⟨rfl, rfl⟩, ⟨Nat.le_of_ble_eq_true rfl, Nat.le_of_ble_eq_true rfl⟩⟩ rfl (by decide) rfl rfl rfl hl rfl (Nat.le_of_ble_eq_true rfl) dX7_cut_61 ⟨Nat.zero_le _, Nat.zero_le _⟩ (fun H locs hw => ?_)
      refine lv_aload_n hx hb dX7_cut_64 rfl (lv_at hl 0 rfl) ?_
      refine lv_iload_n hx hb dX7_cut_65 rfl (lv_at hl 1 rfl) ?_
      refine lv_iconst (v := (0 : Int32)) hx hb dX7_cut_66 (by decide) ?_
      refine lv_iconst (v := (1 : Int32)) hx hb dX7_cut_67 (by decide) ?_
      refine lv_iload hx hb dX7_cut_68 (lv_at hl 4 rfl) ?_
      obtain ⟨r70, hr70, hM⟩ := h_b hM
      refine a_callV (σ' := aG r70.2) (v := (some (.long r70.1))) (As := fun ad => [.int y1, .int (0 : Int32), .int (1 : Int32), .int y5]) (rest := [.long r61.1]) (o := 109) C hw (c_X7_suspectBy l hr70) k_X7_suspectBy wM_X7_275 ⟨⟨rfl, rfl⟩, ⟨Nat.le_of_ble_eq_true rfl, Nat.le_of_ble_eq_true rfl⟩⟩ rfl (by decide) rfl rfl rfl hl rfl (Nat.le_of_ble_eq_true rfl) dX7_cut_70 ⟨Nat.zero_le _, Nat.zero_le _⟩ (fun H locs hw => ?_)
      refine lv_lsub hx hb dX7_cut_73 ?_
      refine lv_lstore (lv' := [(6, .long (r61.1 - r70.1)), (0, .ref (ad 109)), (1, .int y1), (2, .int y2), (3, .long y3), (5, .int y5)]) hx hb dX7_cut_74 hl (by decide) rfl (fun ls hl => ?_)
      refine lv_iload hx hb dX7_cut_76 (lv_at hl 5 rfl) ?_
      refine lv_if_le (tgt := 91) hx hb dX7_cut_78 (by decide) (fun hc => ?_) (fun hc => ?_)
      · replace hM := h_t hc hM
        refine lv_iload hx hb dX7_cut_91 (lv_at hl 5 rfl) ?_
        refine lv_istore_n (lv' := [(2, .int y5), (6, .long (r61.1 - r70.1)), (0, .ref (ad 109)), (1, .int y1), (3, .long y3), (5, .int y5)]) hx hb dX7_cut_93 rfl hl (by decide) rfl (fun ls hl => ?_)
        refine lv_lload hx hb dX7_cut_94 (lv_at hl 1 rfl) ?_
        refine lv_lstore_n (lv' := [(3, .long (r61.1 - r70.1)), (2, .int y5), (6, .long (r61.1 - r70.1)), (0, .ref (ad 109)), (1, .int y1), (5, .int y5)]) hx hb dX7_cut_96 rfl hl (by decide) rfl (fun ls hl => ?_)
        refine lv_iinc (v := (y5 + 1)) (lv' := [(5, .int (y5 + 1)), (3, .long (r61.1 - r70.1)), (2, .int y5), (6, .long (r61.1 - r70.1)), (0, .ref (ad 109)), (1, .int y1)]) hx hb dX7_cut_97 hl (k := 5) rfl rfl (by decide) rfl (fun ls hl => ?_)
        refine lv_goto (tgt := 48) hx hb dX7_cut_100 (by decide) ?_
        exact ih (y1) (y5) ((r61.1 - r70.1)) ((y5 + 1)) hM hw (lv_sub hl [4, 5, 2, 1, 0] rfl)
      · replace hM := h_f hc hM
        refine lv_lload hx hb dX7_cut_81 (lv_at hl 0 rfl) ?_
        refine lv_lload_n hx hb dX7_cut_83 rfl (lv_at hl 4 rfl) ?_
        refine W.lcmp hx hb dX7_cut_84 ?_
        refine lv_if_gt (tgt := 91) hx hb dX7_cut_85 (by decide) (fun hc => ?_) (fun hc => ?_)
        · replace hM := h_t hc hM
          refine lv_iload hx hb dX7_cut_91 (lv_at hl 5 rfl) ?_
          refine lv_istore_n (lv' := [(2, .int y5), (6, .long (r61.1 - r70.1)), (0, .ref (ad 109)), (1, .int y1), (3, .long y3), (5, .int y5)]) hx hb dX7_cut_93 rfl hl (by decide) rfl (fun ls hl => ?_)
          refine lv_lload hx hb dX7_cut_94 (lv_at hl 1 rfl) ?_
          refine lv_lstore_n (lv' := [(3, .long (r61.1 - r70.1)), (2, .int y5), (6, .long (r61.1 - r70.1)), (0, .ref (ad 109)), (1, .int y1), (5, .int y5)]) hx hb dX7_cut_96 rfl hl (by decide) rfl (fun ls hl => ?_)
          refine lv_iinc (v := (y5 + 1)) (lv' := [(5, .int (y5 + 1)), (3, .long (r61.1 - r70.1)), (2, .int y5), (6, .long (r61.1 - r70.1)), (0, .ref (ad 109)), (1, .int y1)]) hx hb dX7_cut_97 hl (k := 5) rfl rfl (by decide) rfl (fun ls hl => ?_)
          refine lv_goto (tgt := 48) hx hb dX7_cut_100 (by decide) ?_
          exact ih (y1) (y5) ((r61.1 - r70.1)) ((y5 + 1)) hM hw (lv_sub hl [4, 5, 2, 1, 0] rfl)
        · replace hM := h_f hc hM
          refine lv_goto (tgt := 97) hx hb dX7_cut_88 (by decide) ?_
          refine lv_iinc (v := (y5 + 1)) (lv' := [(5, .int (y5 + 1)), (6, .long (r61.1 - r70.1)), (0, .ref (ad 109)), (1, .int y1), (2, .int y2), (3, .long y3)]) hx hb dX7_cut_97 hl (k := 5) rfl rfl (by decide) rfl (fun ls hl => ?_)
          refine lv_goto (tgt := 48) hx hb dX7_cut_100 (by decide) ?_
          exact ih (y1) (y2) (y3) ((y5 + 1)) hM hw (lv_sub hl [2, 3, 4, 5, 0] rfl)
theorem k_X7_cut : aCal RX7 yX7_cut cX7_cut 8 (some .int) 1 := ⟨wI_yX7_cut, wE_yX7_cut, wZ_X7, wC_yX7_cut, by decide +kernel⟩
set_option maxHeartbeats 4000000 in
set_option maxRecDepth 100000 in
theorem c_X7_cut (l : Launch) {x1 : Int32} {ι : iS} {res : Int32 × iS} (hM : m_X7_cut x1 ι = some res) : aM l yX7_cut cX7_cut 8 (some .int) rm_X7_cut (fun ad => [.ref (ad 109), .int x1]) (aG ι) (some (.int res.1)) (aG res.2) := by
  refine aM.of (by decide) (fun _ => Nat.le_of_ble_eq_true rfl) ?_
  intro p e s m args below meth c D dA ad adV A ls C hw hl
  have C : aX p m c cX7_cut 8 s args aTs RX7 meth (some .int) := C
  have hx := C.1.1
  have hb := C.1.2.1
  have hml := C.1.2.2.1
  have hown := C.1.2.2.2.1
  have hts := C.1.2.2.2.2
  have hl : lv_has ls 8 [(0, .ref (ad 109)), (1, .int x1)] := hl
  unfold m_X7_cut at hM
  refine lv_aload_n hx hb dX7_cut_0 rfl (lv_at hl 0 rfl) ?_
  refine lv_iconst (v := (0 : Int32)) hx hb dX7_cut_1 (by decide) ?_
  refine a_puti (ty := .int) (σ := aG ι) (o := 109) (T := TX7) (N := 20) (ty0 := tyX7) C wU_X7 tyX7_ok nmX7 hw rfl (by decide) rfl 0 (by decide) rfl wF_X7_42 rfl (by decide +kernel) rfl rfl dX7_cut_2 (fun H locs hw => ?_)
  have hw : aW D dA ad adV (aG (pI ι 109 0 (0 : Int32))) A s H locs := hw
  refine lv_aload_n hx hb dX7_cut_5 rfl (lv_at hl 0 rfl) ?_
  refine lv_iload_n hx hb dX7_cut_6 rfl (lv_at hl 1 rfl) ?_
  obtain ⟨r7, hr7, hM⟩ := h_b hM
  refine a_callS  (σ' := aG r7.2) (v := (some (.int r7.1))) (as := fun ad => [.int x1]) (rest := [.ref (ad 109)]) C hw (c_X7_isHalf l hr7) k_X7_isHalf wM_X7_239 ⟨⟨rfl, rfl⟩, ⟨Nat.le_of_ble_eq_true rfl, Nat.le_of_ble_eq_true rfl⟩⟩ rfl hl rfl (Nat.le_of_ble_eq_true rfl) dX7_cut_7 ⟨Nat.zero_le _, Nat.zero_le _⟩ (fun H locs hw => ?_)
  refine lv_if_ne (tgt := 17) hx hb dX7_cut_10 (by decide) (fun hc => ?_) (fun hc => ?_)
  · replace hM := h_f hc hM
    refine lv_iconst (v := (0 : Int32)) hx hb dX7_cut_17 (by decide) ?_
    refine lv_iconst (v := (1 : Int32)) hx hb dX7_cut_18 (by decide) ?_
    refine lv_iconst (v := (1 : Int32)) hx hb dX7_cut_19 (by decide) ?_
    obtain ⟨r20, hr20, hM⟩ := h_b hM
    refine a_callV (σ' := aG r20.2) (v := (some (.int r20.1))) (As := fun ad => [.int (0 : Int32), .int (1 : Int32), .int (1 : Int32)]) (rest := []) (o := 109) C hw (c_X7_bad l hr20) k_X7_bad wM_X7_164 ⟨⟨rfl, rfl⟩, ⟨Nat.le_of_ble_eq_true rfl, Nat.le_of_ble_eq_true rfl⟩⟩ rfl (by decide) rfl rfl rfl hl rfl (Nat.le_of_ble_eq_true rfl) dX7_cut_20 ⟨Nat.zero_le _, Nat.zero_le _⟩ (fun H locs hw => ?_)
    refine lv_if_ne (tgt := 39) hx hb dX7_cut_23 (by decide) (fun hc => ?_) (fun hc => ?_)
    · replace hM := h_f hc hM
      refine lv_iconst (v := (0 : Int32)) hx hb dX7_cut_39 (by decide) ?_
      cases h_e hM
      exact a_iret C hw dX7_cut_40
    · replace hM := h_t hc hM
      refine lv_aload_n hx hb dX7_cut_26 rfl (lv_at hl 0 rfl) ?_
      refine lv_aload_n hx hb dX7_cut_27 rfl (lv_at hl 0 rfl) ?_
      obtain ⟨r28, hr28, hM⟩ := h_b hM
      refine a_callV (σ' := aG r28.2) (v := (some (.int r28.1))) (As := fun ad => []) (rest := [.ref (ad 109)]) (o := 109) C hw (c_X7_isHidden l hr28) k_X7_isHidden wM_X7_272 ⟨⟨rfl, rfl⟩, ⟨Nat.le_of_ble_eq_true rfl, Nat.le_of_ble_eq_true rfl⟩⟩ rfl (by decide) rfl rfl rfl hl rfl (Nat.le_of_ble_eq_true rfl) dX7_cut_28 ⟨Nat.zero_le _, Nat.zero_le _⟩ (fun H locs hw => ?_)
      refine lv_iconst (v := (2 : Int32)) hx hb dX7_cut_31 (by decide) ?_
      refine lv_iconst (v := (2 : Int32)) hx hb dX7_cut_32 (by decide) ?_
      obtain ⟨r33, hr33, hM⟩ := h_b hM
      refine a_callV (σ' := aG r33.2) (v := (some (.int r33.1))) (As := fun ad => [.int r28.1, .int (2 : Int32), .int (2 : Int32)]) (rest := []) (o := 109) C hw (c_X7_bad l hr33) k_X7_bad wM_X7_164 ⟨⟨rfl, rfl⟩, ⟨Nat.le_of_ble_eq_true rfl, Nat.le_of_ble_eq_true rfl⟩⟩ rfl (by decide) rfl rfl rfl hl rfl (Nat.le_of_ble_eq_true rfl) dX7_cut_33 ⟨Nat.zero_le _, Nat.zero_le _⟩ (fun H locs hw => ?_)
      refine lv_if_eq (tgt := 41) hx hb dX7_cut_36 (by decide) (fun hc => ?_) (fun hc => ?_)
      · replace hM := h_t hc hM
        refine lv_iconst (v := (0 : Int32)) hx hb dX7_cut_41 (by decide) ?_
        refine lv_istore_n (lv' := [(2, .int (0 : Int32)), (0, .ref (ad 109)), (1, .int x1)]) hx hb dX7_cut_42 rfl hl (by decide) rfl (fun ls hl => ?_)
        refine lv_lconst (v := (0 : Int64)) hx hb dX7_cut_43 (by decide) ?_
        refine lv_lstore_n (lv' := [(3, .long (0 : Int64)), (2, .int (0 : Int32)), (0, .ref (ad 109)), (1, .int x1)]) hx hb dX7_cut_44 rfl hl (by decide) rfl (fun ls hl => ?_)
        refine lv_iconst (v := (0 : Int32)) hx hb dX7_cut_45 (by decide) ?_
        refine lv_istore (lv' := [(5, .int (0 : Int32)), (3, .long (0 : Int64)), (2, .int (0 : Int32)), (0, .ref (ad 109)), (1, .int x1)]) hx hb dX7_cut_46 hl (by decide) rfl (fun ls hl => ?_)
        exact tl_X7_cut_48 l C aF (x1) ((0 : Int32)) ((0 : Int64)) ((0 : Int32)) hM hw (lv_sub hl [3, 4, 2, 1, 0] rfl)
      · replace hM := h_f hc hM
        refine lv_iconst (v := (0 : Int32)) hx hb dX7_cut_39 (by decide) ?_
        cases h_e hM
        exact a_iret C hw dX7_cut_40
  · replace hM := h_t hc hM
    refine lv_iconst (v := (1 : Int32)) hx hb dX7_cut_13 (by decide) ?_
    refine lv_goto (tgt := 18) hx hb dX7_cut_14 (by decide) ?_
    refine lv_iconst (v := (1 : Int32)) hx hb dX7_cut_18 (by decide) ?_
    refine lv_iconst (v := (1 : Int32)) hx hb dX7_cut_19 (by decide) ?_
    obtain ⟨r20, hr20, hM⟩ := h_b hM
    refine a_callV (σ' := aG r20.2) (v := (some (.int r20.1))) (As := fun ad => [.int (1 : Int32), .int (1 : Int32), .int (1 : Int32)]) (rest := []) (o := 109) C hw (c_X7_bad l hr20) k_X7_bad wM_X7_164 ⟨⟨rfl, rfl⟩, ⟨Nat.le_of_ble_eq_true rfl, Nat.le_of_ble_eq_true rfl⟩⟩ rfl (by decide) rfl rfl rfl hl rfl (Nat.le_of_ble_eq_true rfl) dX7_cut_20 ⟨Nat.zero_le _, Nat.zero_le _⟩ (fun H locs hw => ?_)
    refine lv_if_ne (tgt := 39) hx hb dX7_cut_23 (by decide) (fun hc => ?_) (fun hc => ?_)
    · replace hM := h_f hc hM
      refine lv_iconst (v := (0 : Int32)) hx hb dX7_cut_39 (by decide) ?_
      cases h_e hM
      exact a_iret C hw dX7_cut_40
    · replace hM := h_t hc hM
      refine lv_aload_n hx hb dX7_cut_26 rfl (lv_at hl 0 rfl) ?_
      refine lv_aload_n hx hb dX7_cut_27 rfl (lv_at hl 0 rfl) ?_
      obtain ⟨r28, hr28, hM⟩ := h_b hM
      refine a_callV (σ' := aG r28.2) (v := (some (.int r28.1))) (As := fun ad => []) (rest := [.ref (ad 109)]) (o := 109) C hw (c_X7_isHidden l hr28) k_X7_isHidden wM_X7_272 ⟨⟨rfl, rfl⟩, ⟨Nat.le_of_ble_eq_true rfl, Nat.le_of_ble_eq_true rfl⟩⟩ rfl (by decide) rfl rfl rfl hl rfl (Nat.le_of_ble_eq_true rfl) dX7_cut_28 ⟨Nat.zero_le _, Nat.zero_le _⟩ (fun H locs hw => ?_)
      refine lv_iconst (v := (2 : Int32)) hx hb dX7_cut_31 (by decide) ?_
      refine lv_iconst (v := (2 : Int32)) hx hb dX7_cut_32 (by decide) ?_
      obtain ⟨r33, hr33, hM⟩ := h_b hM
      refine a_callV (σ' := aG r33.2) (v := (some (.int r33.1))) (As := fun ad => [.int r28.1, .int (2 : Int32), .int (2 : Int32)]) (rest := []) (o := 109) C hw (c_X7_bad l hr33) k_X7_bad wM_X7_164 ⟨⟨rfl, rfl⟩, ⟨Nat.le_of_ble_eq_true rfl, Nat.le_of_ble_eq_true rfl⟩⟩ rfl (by decide) rfl rfl rfl hl rfl (Nat.le_of_ble_eq_true rfl) dX7_cut_33 ⟨Nat.zero_le _, Nat.zero_le _⟩ (fun H locs hw => ?_)
      refine lv_if_eq (tgt := 41) hx hb dX7_cut_36 (by decide) (fun hc => ?_) (fun hc => ?_)
      · replace hM := h_t hc hM
        refine lv_iconst (v := (0 : Int32)) hx hb dX7_cut_41 (by decide) ?_
        refine lv_istore_n (lv' := [(2, .int (0 : Int32)), (0, .ref (ad 109)), (1, .int x1)]) hx hb dX7_cut_42 rfl hl (by decide) rfl (fun ls hl => ?_)
        refine lv_lconst (v := (0 : Int64)) hx hb dX7_cut_43 (by decide) ?_
        refine lv_lstore_n (lv' := [(3, .long (0 : Int64)), (2, .int (0 : Int32)), (0, .ref (ad 109)), (1, .int x1)]) hx hb dX7_cut_44 rfl hl (by decide) rfl (fun ls hl => ?_)
        refine lv_iconst (v := (0 : Int32)) hx hb dX7_cut_45 (by decide) ?_
        refine lv_istore (lv' := [(5, .int (0 : Int32)), (3, .long (0 : Int64)), (2, .int (0 : Int32)), (0, .ref (ad 109)), (1, .int x1)]) hx hb dX7_cut_46 hl (by decide) rfl (fun ls hl => ?_)
        exact tl_X7_cut_48 l C aF (x1) ((0 : Int32)) ((0 : Int64)) ((0 : Int32)) hM hw (lv_sub hl [3, 4, 2, 1, 0] rfl)
      · replace hM := h_f hc hM
        refine lv_iconst (v := (0 : Int32)) hx hb dX7_cut_39 (by decide) ?_
        cases h_e hM
        exact a_iret C hw dX7_cut_40
def rm_X7_nudged : Room := { frames := 6, cells := 0, slots := 0, locals := 147 }
theorem k_X7_nudged : aCal RX7 yX7_nudged cX7_nudged 4 (some .int) 1 := ⟨wI_yX7_nudged, wE_yX7_nudged, wZ_X7, wC_yX7_nudged, by decide +kernel⟩
set_option maxHeartbeats 4000000 in
set_option maxRecDepth 100000 in
theorem c_X7_nudged (l : Launch) {x1 : Int32} {ι : iS} {res : Int32 × iS} (hM : m_X7_nudged x1 ι = some res) : aM l yX7_nudged cX7_nudged 4 (some .int) rm_X7_nudged (fun ad => [.ref (ad 109), .int x1]) (aG ι) (some (.int res.1)) (aG res.2) := by
  refine aM.of (by decide) (fun _ => Nat.le_of_ble_eq_true rfl) ?_
  intro p e s m args below meth c D dA ad adV A ls C hw hl
  have C : aX p m c cX7_nudged 4 s args aTs RX7 meth (some .int) := C
  have hx := C.1.1
  have hb := C.1.2.1
  have hml := C.1.2.2.1
  have hown := C.1.2.2.2.1
  have hts := C.1.2.2.2.2
  have hl : lv_has ls 4 [(0, .ref (ad 109)), (1, .int x1)] := hl
  unfold m_X7_nudged at hM
  refine lv_aload_n hx hb dX7_nudged_0 rfl (lv_at hl 0 rfl) ?_
  refine lv_iconst (v := (0 : Int32)) hx hb dX7_nudged_1 (by decide) ?_
  refine a_puti (ty := .int) (σ := aG ι) (o := 109) (T := TX7) (N := 20) (ty0 := tyX7) C wU_X7 tyX7_ok nmX7 hw rfl (by decide) rfl 0 (by decide) rfl wF_X7_42 rfl (by decide +kernel) rfl rfl dX7_nudged_2 (fun H locs hw => ?_)
  have hw : aW D dA ad adV (aG (pI ι 109 0 (0 : Int32))) A s H locs := hw
  refine lv_aload_n hx hb dX7_nudged_5 rfl (lv_at hl 0 rfl) ?_
  refine lv_iload_n hx hb dX7_nudged_6 rfl (lv_at hl 1 rfl) ?_
  obtain ⟨r7, hr7, hM⟩ := h_b hM
  refine a_callS  (σ' := aG r7.2) (v := (some (.int r7.1))) (as := fun ad => [.int x1]) (rest := [.ref (ad 109)]) C hw (c_X7_isHalf l hr7) k_X7_isHalf wM_X7_239 ⟨⟨rfl, rfl⟩, ⟨Nat.le_of_ble_eq_true rfl, Nat.le_of_ble_eq_true rfl⟩⟩ rfl hl rfl (Nat.le_of_ble_eq_true rfl) dX7_nudged_7 ⟨Nat.zero_le _, Nat.zero_le _⟩ (fun H locs hw => ?_)
  refine lv_if_ne (tgt := 17) hx hb dX7_nudged_10 (by decide) (fun hc => ?_) (fun hc => ?_)
  · replace hM := h_f hc hM
    refine lv_iconst (v := (0 : Int32)) hx hb dX7_nudged_17 (by decide) ?_
    refine lv_iconst (v := (1 : Int32)) hx hb dX7_nudged_18 (by decide) ?_
    refine lv_iconst (v := (1 : Int32)) hx hb dX7_nudged_19 (by decide) ?_
    obtain ⟨r20, hr20, hM⟩ := h_b hM
    refine a_callV (σ' := aG r20.2) (v := (some (.int r20.1))) (As := fun ad => [.int (0 : Int32), .int (1 : Int32), .int (1 : Int32)]) (rest := []) (o := 109) C hw (c_X7_bad l hr20) k_X7_bad wM_X7_164 ⟨⟨rfl, rfl⟩, ⟨Nat.le_of_ble_eq_true rfl, Nat.le_of_ble_eq_true rfl⟩⟩ rfl (by decide) rfl rfl rfl hl rfl (Nat.le_of_ble_eq_true rfl) dX7_nudged_20 ⟨Nat.zero_le _, Nat.zero_le _⟩ (fun H locs hw => ?_)
    refine lv_if_ne (tgt := 39) hx hb dX7_nudged_23 (by decide) (fun hc => ?_) (fun hc => ?_)
    · replace hM := h_f hc hM
      refine lv_iconst (v := (0 : Int32)) hx hb dX7_nudged_39 (by decide) ?_
      cases h_e hM
      exact a_iret C hw dX7_nudged_40
    · replace hM := h_t hc hM
      refine lv_aload_n hx hb dX7_nudged_26 rfl (lv_at hl 0 rfl) ?_
      refine lv_aload_n hx hb dX7_nudged_27 rfl (lv_at hl 0 rfl) ?_
      obtain ⟨r28, hr28, hM⟩ := h_b hM
      refine a_callV (σ' := aG r28.2) (v := (some (.int r28.1))) (As := fun ad => []) (rest := [.ref (ad 109)]) (o := 109) C hw (c_X7_isHidden l hr28) k_X7_isHidden wM_X7_272 ⟨⟨rfl, rfl⟩, ⟨Nat.le_of_ble_eq_true rfl, Nat.le_of_ble_eq_true rfl⟩⟩ rfl (by decide) rfl rfl rfl hl rfl (Nat.le_of_ble_eq_true rfl) dX7_nudged_28 ⟨Nat.zero_le _, Nat.zero_le _⟩ (fun H locs hw => ?_)
      refine lv_iconst (v := (2 : Int32)) hx hb dX7_nudged_31 (by decide) ?_
      refine lv_iconst (v := (2 : Int32)) hx hb dX7_nudged_32 (by decide) ?_
      obtain ⟨r33, hr33, hM⟩ := h_b hM
      refine a_callV (σ' := aG r33.2) (v := (some (.int r33.1))) (As := fun ad => [.int r28.1, .int (2 : Int32), .int (2 : Int32)]) (rest := []) (o := 109) C hw (c_X7_bad l hr33) k_X7_bad wM_X7_164 ⟨⟨rfl, rfl⟩, ⟨Nat.le_of_ble_eq_true rfl, Nat.le_of_ble_eq_true rfl⟩⟩ rfl (by decide) rfl rfl rfl hl rfl (Nat.le_of_ble_eq_true rfl) dX7_nudged_33 ⟨Nat.zero_le _, Nat.zero_le _⟩ (fun H locs hw => ?_)
      refine lv_if_eq (tgt := 41) hx hb dX7_nudged_36 (by decide) (fun hc => ?_) (fun hc => ?_)
      · replace hM := h_t hc hM
        refine lv_aload_n hx hb dX7_nudged_41 rfl (lv_at hl 0 rfl) ?_
        refine lv_iload_n hx hb dX7_nudged_42 rfl (lv_at hl 1 rfl) ?_
        refine lv_iconst (v := (0 : Int32)) hx hb dX7_nudged_43 (by decide) ?_
        refine lv_iconst (v := (0 : Int32)) hx hb dX7_nudged_44 (by decide) ?_
        refine lv_aload_n hx hb dX7_nudged_45 rfl (lv_at hl 0 rfl) ?_
        refine a_getp (q := 112) (σ := aG r33.2) (o := 109) (T := TX7) (N := 20) C wU_X7 hw rfl (by decide) rfl 9 (by decide) rfl wF_X7_20 (aG_P rfl rfl) dX7_nudged_46 ?_
        refine lv_iconst (v := (5 : Int32)) hx hb dX7_nudged_49 (by decide) ?_
        refine a_iald (σ := aG r33.2) (o := 112) C hw rfl (aIn_v (by decide)) (show (5 : Int32).toNatClampNeg = 5 by decide) dX7_nudged_50 ?_
        obtain ⟨r51, hr51, hM⟩ := h_b hM
        refine a_callV (σ' := aG r51.2) (v := (some (.long r51.1))) (As := fun ad => [.int x1, .int (0 : Int32), .int (0 : Int32), .int (gI r33.2 112 5)]) (rest := []) (o := 109) C hw (c_X7_suspectBy l hr51) k_X7_suspectBy wM_X7_275 ⟨⟨rfl, rfl⟩, ⟨Nat.le_of_ble_eq_true rfl, Nat.le_of_ble_eq_true rfl⟩⟩ rfl (by decide) rfl rfl rfl hl rfl (Nat.le_of_ble_eq_true rfl) dX7_nudged_51 ⟨Nat.zero_le _, Nat.zero_le _⟩ (fun H locs hw => ?_)
        refine lv_aload_n hx hb dX7_nudged_54 rfl (lv_at hl 0 rfl) ?_
        refine lv_iload_n hx hb dX7_nudged_55 rfl (lv_at hl 1 rfl) ?_
        refine lv_iconst (v := (0 : Int32)) hx hb dX7_nudged_56 (by decide) ?_
        refine lv_iconst (v := (1 : Int32)) hx hb dX7_nudged_57 (by decide) ?_
        refine lv_aload_n hx hb dX7_nudged_58 rfl (lv_at hl 0 rfl) ?_
        refine a_getp (q := 112) (σ := aG r51.2) (o := 109) (T := TX7) (N := 20) C wU_X7 hw rfl (by decide) rfl 9 (by decide) rfl wF_X7_20 (aG_P rfl rfl) dX7_nudged_59 ?_
        refine lv_iconst (v := (5 : Int32)) hx hb dX7_nudged_62 (by decide) ?_
        refine a_iald (σ := aG r51.2) (o := 112) C hw rfl (aIn_v (by decide)) (show (5 : Int32).toNatClampNeg = 5 by decide) dX7_nudged_63 ?_
        obtain ⟨r64, hr64, hM⟩ := h_b hM
        refine a_callV (σ' := aG r64.2) (v := (some (.long r64.1))) (As := fun ad => [.int x1, .int (0 : Int32), .int (1 : Int32), .int (gI r51.2 112 5)]) (rest := [.long r51.1]) (o := 109) C hw (c_X7_suspectBy l hr64) k_X7_suspectBy wM_X7_275 ⟨⟨rfl, rfl⟩, ⟨Nat.le_of_ble_eq_true rfl, Nat.le_of_ble_eq_true rfl⟩⟩ rfl (by decide) rfl rfl rfl hl rfl (Nat.le_of_ble_eq_true rfl) dX7_nudged_64 ⟨Nat.zero_le _, Nat.zero_le _⟩ (fun H locs hw => ?_)
        refine lv_lsub hx hb dX7_nudged_67 ?_
        refine lv_lstore_n (lv' := [(2, .long (r51.1 - r64.1)), (0, .ref (ad 109)), (1, .int x1)]) hx hb dX7_nudged_68 rfl hl (by decide) rfl (fun ls hl => ?_)
        refine lv_ldc2 (v := (100 : Int64)) hx hb hown (hts _ wQ_X7_279) dX7_nudged_69 ?_
        refine lv_lload_n hx hb dX7_nudged_72 rfl (lv_at hl 0 rfl) ?_
        refine lv_lmul hx hb dX7_nudged_73 ?_
        refine lv_aload_n hx hb dX7_nudged_74 rfl (lv_at hl 1 rfl) ?_
        obtain ⟨r75, hr75, hM⟩ := h_b hM
        refine a_callV (σ' := aG r75.2) (v := (some (.long r75.1))) (As := fun ad => []) (rest := [.long ((100 : Int64) * (r51.1 - r64.1))]) (o := 109) C hw (c_X7_allWays l hr75) k_X7_allWays wM_X7_250 ⟨⟨rfl, rfl⟩, ⟨Nat.le_of_ble_eq_true rfl, Nat.le_of_ble_eq_true rfl⟩⟩ rfl (by decide) rfl rfl rfl hl rfl (Nat.le_of_ble_eq_true rfl) dX7_nudged_75 ⟨Nat.zero_le _, Nat.zero_le _⟩ (fun H locs hw => ?_)
        obtain ⟨hd, hM⟩ := h_g hM
        refine lv_ldiv hx hb dX7_nudged_78 hd ?_
        refine lv_l2i hx hb dX7_nudged_79 rfl ?_
        cases h_e hM
        exact a_iret C hw dX7_nudged_80
      · replace hM := h_f hc hM
        refine lv_iconst (v := (0 : Int32)) hx hb dX7_nudged_39 (by decide) ?_
        cases h_e hM
        exact a_iret C hw dX7_nudged_40
  · replace hM := h_t hc hM
    refine lv_iconst (v := (1 : Int32)) hx hb dX7_nudged_13 (by decide) ?_
    refine lv_goto (tgt := 18) hx hb dX7_nudged_14 (by decide) ?_
    refine lv_iconst (v := (1 : Int32)) hx hb dX7_nudged_18 (by decide) ?_
    refine lv_iconst (v := (1 : Int32)) hx hb dX7_nudged_19 (by decide) ?_
    obtain ⟨r20, hr20, hM⟩ := h_b hM
    refine a_callV (σ' := aG r20.2) (v := (some (.int r20.1))) (As := fun ad => [.int (1 : Int32), .int (1 : Int32), .int (1 : Int32)]) (rest := []) (o := 109) C hw (c_X7_bad l hr20) k_X7_bad wM_X7_164 ⟨⟨rfl, rfl⟩, ⟨Nat.le_of_ble_eq_true rfl, Nat.le_of_ble_eq_true rfl⟩⟩ rfl (by decide) rfl rfl rfl hl rfl (Nat.le_of_ble_eq_true rfl) dX7_nudged_20 ⟨Nat.zero_le _, Nat.zero_le _⟩ (fun H locs hw => ?_)
    refine lv_if_ne (tgt := 39) hx hb dX7_nudged_23 (by decide) (fun hc => ?_) (fun hc => ?_)
    · replace hM := h_f hc hM
      refine lv_iconst (v := (0 : Int32)) hx hb dX7_nudged_39 (by decide) ?_
      cases h_e hM
      exact a_iret C hw dX7_nudged_40
    · replace hM := h_t hc hM
      refine lv_aload_n hx hb dX7_nudged_26 rfl (lv_at hl 0 rfl) ?_
      refine lv_aload_n hx hb dX7_nudged_27 rfl (lv_at hl 0 rfl) ?_
      obtain ⟨r28, hr28, hM⟩ := h_b hM
      refine a_callV (σ' := aG r28.2) (v := (some (.int r28.1))) (As := fun ad => []) (rest := [.ref (ad 109)]) (o := 109) C hw (c_X7_isHidden l hr28) k_X7_isHidden wM_X7_272 ⟨⟨rfl, rfl⟩, ⟨Nat.le_of_ble_eq_true rfl, Nat.le_of_ble_eq_true rfl⟩⟩ rfl (by decide) rfl rfl rfl hl rfl (Nat.le_of_ble_eq_true rfl) dX7_nudged_28 ⟨Nat.zero_le _, Nat.zero_le _⟩ (fun H locs hw => ?_)
      refine lv_iconst (v := (2 : Int32)) hx hb dX7_nudged_31 (by decide) ?_
      refine lv_iconst (v := (2 : Int32)) hx hb dX7_nudged_32 (by decide) ?_
      obtain ⟨r33, hr33, hM⟩ := h_b hM
      refine a_callV (σ' := aG r33.2) (v := (some (.int r33.1))) (As := fun ad => [.int r28.1, .int (2 : Int32), .int (2 : Int32)]) (rest := []) (o := 109) C hw (c_X7_bad l hr33) k_X7_bad wM_X7_164 ⟨⟨rfl, rfl⟩, ⟨Nat.le_of_ble_eq_true rfl, Nat.le_of_ble_eq_true rfl⟩⟩ rfl (by decide) rfl rfl rfl hl rfl (Nat.le_of_ble_eq_true rfl) dX7_nudged_33 ⟨Nat.zero_le _, Nat.zero_le _⟩ (fun H locs hw => ?_)
      refine lv_if_eq (tgt := 41) hx hb dX7_nudged_36 (by decide) (fun hc => ?_) (fun hc => ?_)
      · replace hM := h_t hc hM
        refine lv_aload_n hx hb dX7_nudged_41 rfl (lv_at hl 0 rfl) ?_
        refine lv_iload_n hx hb dX7_nudged_42 rfl (lv_at hl 1 rfl) ?_
        refine lv_iconst (v := (0 : Int32)) hx hb dX7_nudged_43 (by decide) ?_
        refine lv_iconst (v := (0 : Int32)) hx hb dX7_nudged_44 (by decide) ?_
        refine lv_aload_n hx hb dX7_nudged_45 rfl (lv_at hl 0 rfl) ?_
        refine a_getp (q := 112) (σ := aG r33.2) (o := 109) (T := TX7) (N := 20) C wU_X7 hw rfl (by decide) rfl 9 (by decide) rfl wF_X7_20 (aG_P rfl rfl) dX7_nudged_46 ?_
        refine lv_iconst (v := (5 : Int32)) hx hb dX7_nudged_49 (by decide) ?_
        refine a_iald (σ := aG r33.2) (o := 112) C hw rfl (aIn_v (by decide)) (show (5 : Int32).toNatClampNeg = 5 by decide) dX7_nudged_50 ?_
        obtain ⟨r51, hr51, hM⟩ := h_b hM
        refine a_callV (σ' := aG r51.2) (v := (some (.long r51.1))) (As := fun ad => [.int x1, .int (0 : Int32), .int (0 : Int32), .int (gI r33.2 112 5)]) (rest := []) (o := 109) C hw (c_X7_suspectBy l hr51) k_X7_suspectBy wM_X7_275 ⟨⟨rfl, rfl⟩, ⟨Nat.le_of_ble_eq_true rfl, Nat.le_of_ble_eq_true rfl⟩⟩ rfl (by decide) rfl rfl rfl hl rfl (Nat.le_of_ble_eq_true rfl) dX7_nudged_51 ⟨Nat.zero_le _, Nat.zero_le _⟩ (fun H locs hw => ?_)
        refine lv_aload_n hx hb dX7_nudged_54 rfl (lv_at hl 0 rfl) ?_
        refine lv_iload_n hx hb dX7_nudged_55 rfl (lv_at hl 1 rfl) ?_
        refine lv_iconst (v := (0 : Int32)) hx hb dX7_nudged_56 (by decide) ?_
        refine lv_iconst (v := (1 : Int32)) hx hb dX7_nudged_57 (by decide) ?_
        refine lv_aload_n hx hb dX7_nudged_58 rfl (lv_at hl 0 rfl) ?_
        refine a_getp (q := 112) (σ := aG r51.2) (o := 109) (T := TX7) (N := 20) C wU_X7 hw rfl (by decide) rfl 9 (by decide) rfl wF_X7_20 (aG_P rfl rfl) dX7_nudged_59 ?_
        refine lv_iconst (v := (5 : Int32)) hx hb dX7_nudged_62 (by decide) ?_
        refine a_iald (σ := aG r51.2) (o := 112) C hw rfl (aIn_v (by decide)) (show (5 : Int32).toNatClampNeg = 5 by decide) dX7_nudged_63 ?_
        obtain ⟨r64, hr64, hM⟩ := h_b hM
        refine a_callV (σ' := aG r64.2) (v := (some (.long r64.1))) (As := fun ad => [.int x1, .int (0 : Int32), .int (1 : Int32), .int (gI r51.2 112 5)]) (rest := [.long r51.1]) (o := 109) C hw (c_X7_suspectBy l hr64) k_X7_suspectBy wM_X7_275 ⟨⟨rfl, rfl⟩, ⟨Nat.le_of_ble_eq_true rfl, Nat.le_of_ble_eq_true rfl⟩⟩ rfl (by decide) rfl rfl rfl hl rfl (Nat.le_of_ble_eq_true rfl) dX7_nudged_64 ⟨Nat.zero_le _, Nat.zero_le _⟩ (fun H locs hw => ?_)
        refine lv_lsub hx hb dX7_nudged_67 ?_
        refine lv_lstore_n (lv' := [(2, .long (r51.1 - r64.1)), (0, .ref (ad 109)), (1, .int x1)]) hx hb dX7_nudged_68 rfl hl (by decide) rfl (fun ls hl => ?_)
        refine lv_ldc2 (v := (100 : Int64)) hx hb hown (hts _ wQ_X7_279) dX7_nudged_69 ?_
        refine lv_lload_n hx hb dX7_nudged_72 rfl (lv_at hl 0 rfl) ?_
        refine lv_lmul hx hb dX7_nudged_73 ?_
        refine lv_aload_n hx hb dX7_nudged_74 rfl (lv_at hl 1 rfl) ?_
        obtain ⟨r75, hr75, hM⟩ := h_b hM
        refine a_callV (σ' := aG r75.2) (v := (some (.long r75.1))) (As := fun ad => []) (rest := [.long ((100 : Int64) * (r51.1 - r64.1))]) (o := 109) C hw (c_X7_allWays l hr75) k_X7_allWays wM_X7_250 ⟨⟨rfl, rfl⟩, ⟨Nat.le_of_ble_eq_true rfl, Nat.le_of_ble_eq_true rfl⟩⟩ rfl (by decide) rfl rfl rfl hl rfl (Nat.le_of_ble_eq_true rfl) dX7_nudged_75 ⟨Nat.zero_le _, Nat.zero_le _⟩ (fun H locs hw => ?_)
        obtain ⟨hd, hM⟩ := h_g hM
        refine lv_ldiv hx hb dX7_nudged_78 hd ?_
        refine lv_l2i hx hb dX7_nudged_79 rfl ?_
        cases h_e hM
        exact a_iret C hw dX7_nudged_80
      · replace hM := h_f hc hM
        refine lv_iconst (v := (0 : Int32)) hx hb dX7_nudged_39 (by decide) ?_
        cases h_e hM
        exact a_iret C hw dX7_nudged_40
def rm_X7_print : Room := { frames := 0, cells := 0, slots := 0, locals := 0 }
set_option maxHeartbeats 4000000 in
set_option maxRecDepth 100000 in
theorem tl_X7_print_9 (l : Launch) {p : Program} {e : Env} {s : State} {m : MethodId} {args : Array Value} {below : List Frame} {meth : Method} {c : Code} {D : va_G} {dA : Nat → ClassId} {ad adV : Nat → Nat} {A : Nat → Prop} (C : aX p m c cX7_print 4 s args aTs RX7 meth (some .long)) {res : Int64 × iS} : ∀ (n : Nat) (y1 : Int64) (y3 : Int32) {ι : iS}, l_X7_print_9 n y1 y3 ι = some res → ∀ {H : Heap} {locs : List Loc} {ls : Array Slot}, aW D dA ad adV (aG ι) A s H locs → lv_has ls 4 [(0, .ref (ad 109)), (1, .long y1), (3, .int y3)] → W p l e rm_X7_print s m args below meth c H locs 0 0 (MQ below (aQ D dA ad (aG res.2) A (some (.long res.1))) args s 0 0 A) (F0 m 9 ls []) := by
  have hx := C.1.1
  have hb := C.1.2.1
  have hml := C.1.2.2.1
  have hown := C.1.2.2.2.1
  have hts := C.1.2.2.2.2
  intro n
  induction n with
  | zero => intro y1 y3 ι hM; simp [l_X7_print_9] at hM
  | succ n ih =>
    intro y1 y3 ι hM H locs ls hw hl
    rw [l_X7_print_9] at hM
    refine lv_iload_n hx hb dX7_print_9 rfl (lv_at hl 2 rfl) ?_
    refine lv_aload_n hx hb dX7_print_10 rfl (lv_at hl 0 rfl) ?_
    refine a_getp (q := 112) (σ := aG ι) (o := 109) (T := TX7) (N := 20) C wU_X7 hw rfl (by decide) rfl 9 (by decide) rfl wF_X7_20 (aG_P rfl rfl) dX7_print_11 ?_
    refine lv_iconst (v := (3 : Int32)) hx hb dX7_print_14 (by decide) ?_
    refine a_iald (σ := aG ι) (o := 112) C hw rfl (aIn_v (by decide)) (show (3 : Int32).toNatClampNeg = 3 by decide) dX7_print_15 ?_
    refine lv_icmp_ge (tgt := 65) hx hb dX7_print_16 (by decide) (fun hc => ?_) (fun hc => ?_)
    · replace hM := h_t hc hM
      refine lv_ldc2 (v := (31 : Int64)) hx hb hown (hts _ wQ_X7_281) dX7_print_65 ?_
      refine lv_lload_n hx hb dX7_print_68 rfl (lv_at hl 1 rfl) ?_
      refine lv_lmul hx hb dX7_print_69 ?_
      refine lv_aload_n hx hb dX7_print_70 rfl (lv_at hl 0 rfl) ?_
      refine a_getp (q := 112) (σ := aG ι) (o := 109) (T := TX7) (N := 20) C wU_X7 hw rfl (by decide) rfl 9 (by decide) rfl wF_X7_20 (aG_P rfl rfl) dX7_print_71 ?_
      refine lv_iconst (v := (5 : Int32)) hx hb dX7_print_74 (by decide) ?_
      refine a_iald (σ := aG ι) (o := 112) C hw rfl (aIn_v (by decide)) (show (5 : Int32).toNatClampNeg = 5 by decide) dX7_print_75 ?_
      refine lv_i2l hx hb dX7_print_76 rfl ?_
      refine lv_ladd hx hb dX7_print_77 ?_
      cases h_e hM
      exact a_lret C hw dX7_print_78
    · replace hM := h_f hc hM
      refine lv_ldc2 (v := (31 : Int64)) hx hb hown (hts _ wQ_X7_281) dX7_print_19 ?_
      refine lv_ldc2 (v := (31 : Int64)) hx hb hown (hts _ wQ_X7_281) dX7_print_22 ?_
      refine lv_lload_n hx hb dX7_print_25 rfl (lv_at hl 1 rfl) ?_
      refine lv_lmul hx hb dX7_print_26 ?_
      refine lv_aload_n hx hb dX7_print_27 rfl (lv_at hl 0 rfl) ?_
      refine a_getp (q := 112) (σ := aG ι) (o := 109) (T := TX7) (N := 20) C wU_X7 hw rfl (by decide) rfl 9 (by decide) rfl wF_X7_20 (aG_P rfl rfl) dX7_print_28 ?_
      refine lv_bipush (v := (99 : Int32)) hx hb dX7_print_31 (by decide) ?_
      refine lv_iload_n hx hb dX7_print_33 rfl (lv_at hl 2 rfl) ?_
      refine lv_iadd hx hb dX7_print_34 ?_
      obtain ⟨hi, hM⟩ := h_i hM
      refine a_iald (σ := aG ι) (o := 112) C hw rfl hi rfl dX7_print_35 ?_
      refine lv_i2l hx hb dX7_print_36 rfl ?_
      refine lv_ladd hx hb dX7_print_37 ?_
      refine lv_lmul hx hb dX7_print_38 ?_
      refine lv_aload_n hx hb dX7_print_39 rfl (lv_at hl 0 rfl) ?_
      refine a_getp (q := 112) (σ := aG ι) (o := 109) (T := TX7) (N := 20) C wU_X7 hw rfl (by decide) rfl 9 (by decide) rfl wF_X7_20 (aG_P rfl rfl) dX7_print_40 ?_
      refine lv_bipush (v := (107 : Int32)) hx hb dX7_print_43 (by decide) ?_
      refine lv_aload_n hx hb dX7_print_45 rfl (lv_at hl 0 rfl) ?_
      refine a_getp (q := 112) (σ := aG ι) (o := 109) (T := TX7) (N := 20) C wU_X7 hw rfl (by decide) rfl 9 (by decide) rfl wF_X7_20 (aG_P rfl rfl) dX7_print_46 ?_
      refine lv_bipush (v := (99 : Int32)) hx hb dX7_print_49 (by decide) ?_
      refine lv_iload_n hx hb dX7_print_51 rfl (lv_at hl 2 rfl) ?_
      refine lv_iadd hx hb dX7_print_52 ?_
      obtain ⟨hi, hM⟩ := h_i hM
      refine a_iald (σ := aG ι) (o := 112) C hw rfl hi rfl dX7_print_53 ?_
      refine lv_iadd hx hb dX7_print_54 ?_
      obtain ⟨hi, hM⟩ := h_i hM
      refine a_iald (σ := aG ι) (o := 112) C hw rfl hi rfl dX7_print_55 ?_
      refine lv_i2l hx hb dX7_print_56 rfl ?_
      refine lv_ladd hx hb dX7_print_57 ?_
      refine lv_lstore_n (lv' := [(1, .long (((31 : Int64) * (((31 : Int64) * y1) + ((gI ι 112 ((99 : Int32) + y3).toNatClampNeg)).toInt64)) + ((gI ι 112 ((107 : Int32) + (gI ι 112 ((99 : Int32) + y3).toNatClampNeg)).toNatClampNeg)).toInt64)), (0, .ref (ad 109)), (3, .int y3)]) hx hb dX7_print_58 rfl hl (by decide) rfl (fun ls hl => ?_)
      refine lv_iinc (v := (y3 + 1)) (lv' := [(3, .int (y3 + 1)), (1, .long (((31 : Int64) * (((31 : Int64) * y1) + ((gI ι 112 ((99 : Int32) + y3).toNatClampNeg)).toInt64)) + ((gI ι 112 ((107 : Int32) + (gI ι 112 ((99 : Int32) + y3).toNatClampNeg)).toNatClampNeg)).toInt64)), (0, .ref (ad 109))]) hx hb dX7_print_59 hl (k := 2) rfl rfl (by decide) rfl (fun ls hl => ?_)
      refine lv_goto (tgt := 9) hx hb dX7_print_62 (by decide) ?_
      exact ih ((((31 : Int64) * (((31 : Int64) * y1) + ((gI ι 112 ((99 : Int32) + y3).toNatClampNeg)).toInt64)) + ((gI ι 112 ((107 : Int32) + (gI ι 112 ((99 : Int32) + y3).toNatClampNeg)).toNatClampNeg)).toInt64)) ((y3 + 1)) hM hw (lv_sub hl [2, 1, 0] rfl)
theorem k_X7_print : aCal RX7 yX7_print cX7_print 4 (some .long) 0 := ⟨wI_yX7_print, wE_yX7_print, wZ_X7, wC_yX7_print, by decide +kernel⟩
set_option maxHeartbeats 4000000 in
set_option maxRecDepth 100000 in
theorem c_X7_print (l : Launch) {ι : iS} {res : Int64 × iS} (hM : m_X7_print ι = some res) : aM l yX7_print cX7_print 4 (some .long) rm_X7_print (fun ad => [.ref (ad 109)]) (aG ι) (some (.long res.1)) (aG res.2) := by
  refine aM.of (by decide) (fun _ => Nat.le_of_ble_eq_true rfl) ?_
  intro p e s m args below meth c D dA ad adV A ls C hw hl
  have C : aX p m c cX7_print 4 s args aTs RX7 meth (some .long) := C
  have hx := C.1.1
  have hb := C.1.2.1
  have hml := C.1.2.2.1
  have hown := C.1.2.2.2.1
  have hts := C.1.2.2.2.2
  have hl : lv_has ls 4 [(0, .ref (ad 109))] := hl
  unfold m_X7_print at hM
  refine lv_aload_n hx hb dX7_print_0 rfl (lv_at hl 0 rfl) ?_
  refine lv_iconst (v := (0 : Int32)) hx hb dX7_print_1 (by decide) ?_
  refine a_puti (ty := .int) (σ := aG ι) (o := 109) (T := TX7) (N := 20) (ty0 := tyX7) C wU_X7 tyX7_ok nmX7 hw rfl (by decide) rfl 0 (by decide) rfl wF_X7_42 rfl (by decide +kernel) rfl rfl dX7_print_2 (fun H locs hw => ?_)
  have hw : aW D dA ad adV (aG (pI ι 109 0 (0 : Int32))) A s H locs := hw
  refine lv_lconst (v := (0 : Int64)) hx hb dX7_print_5 (by decide) ?_
  refine lv_lstore_n (lv' := [(1, .long (0 : Int64)), (0, .ref (ad 109))]) hx hb dX7_print_6 rfl hl (by decide) rfl (fun ls hl => ?_)
  refine lv_iconst (v := (0 : Int32)) hx hb dX7_print_7 (by decide) ?_
  refine lv_istore_n (lv' := [(3, .int (0 : Int32)), (1, .long (0 : Int64)), (0, .ref (ad 109))]) hx hb dX7_print_8 rfl hl (by decide) rfl (fun ls hl => ?_)
  exact tl_X7_print_9 l C aF ((0 : Int64)) ((0 : Int32)) hM hw (lv_sub hl [2, 1, 0] rfl)
def rm_X7_status : Room := { frames := 1, cells := 0, slots := 0, locals := 22 }
theorem k_X7_status : aCal RX7 yX7_status cX7_status 2 (some .int) 1 := ⟨wI_yX7_status, wE_yX7_status, wZ_X7, wC_yX7_status, by decide +kernel⟩
set_option maxHeartbeats 4000000 in
set_option maxRecDepth 100000 in
theorem c_X7_status (l : Launch) {x1 : Int32} {ι : iS} {res : Int32 × iS} (hM : m_X7_status x1 ι = some res) : aM l yX7_status cX7_status 2 (some .int) rm_X7_status (fun ad => [.ref (ad 109), .int x1]) (aG ι) (some (.int res.1)) (aG res.2) := by
  refine aM.of (by decide) (fun _ => Nat.le_of_ble_eq_true rfl) ?_
  intro p e s m args below meth c D dA ad adV A ls C hw hl
  have C : aX p m c cX7_status 2 s args aTs RX7 meth (some .int) := C
  have hx := C.1.1
  have hb := C.1.2.1
  have hml := C.1.2.2.1
  have hown := C.1.2.2.2.1
  have hts := C.1.2.2.2.2
  have hl : lv_has ls 2 [(0, .ref (ad 109)), (1, .int x1)] := hl
  unfold m_X7_status at hM
  refine lv_aload_n hx hb dX7_status_0 rfl (lv_at hl 0 rfl) ?_
  refine lv_iconst (v := (0 : Int32)) hx hb dX7_status_1 (by decide) ?_
  refine a_puti (ty := .int) (σ := aG ι) (o := 109) (T := TX7) (N := 20) (ty0 := tyX7) C wU_X7 tyX7_ok nmX7 hw rfl (by decide) rfl 0 (by decide) rfl wF_X7_42 rfl (by decide +kernel) rfl rfl dX7_status_2 (fun H locs hw => ?_)
  have hw : aW D dA ad adV (aG (pI ι 109 0 (0 : Int32))) A s H locs := hw
  refine lv_iload_n hx hb dX7_status_5 rfl (lv_at hl 1 rfl) ?_
  refine lv_iconst (v := (0 : Int32)) hx hb dX7_status_6 (by decide) ?_
  refine lv_iconst (v := (2 : Int32)) hx hb dX7_status_7 (by decide) ?_
  obtain ⟨r8, hr8, hM⟩ := h_b hM
  refine a_callS  (σ' := aG r8.2) (v := (some (.int r8.1))) (as := fun ad => [.int x1, .int (0 : Int32), .int (2 : Int32)]) (rest := []) C hw (c_X7_in l hr8) k_X7_in wM_X7_81 ⟨⟨rfl, rfl⟩, ⟨Nat.le_of_ble_eq_true rfl, Nat.le_of_ble_eq_true rfl⟩⟩ rfl hl rfl (Nat.le_of_ble_eq_true rfl) dX7_status_8 ⟨Nat.zero_le _, Nat.zero_le _⟩ (fun H locs hw => ?_)
  refine lv_if_eq (tgt := 23) hx hb dX7_status_11 (by decide) (fun hc => ?_) (fun hc => ?_)
  · replace hM := h_t hc hM
    refine lv_iconst (v := (-1 : Int32)) hx hb dX7_status_23 (by decide) ?_
    cases h_e hM
    exact a_iret C hw dX7_status_24
  · replace hM := h_f hc hM
    refine lv_aload_n hx hb dX7_status_14 rfl (lv_at hl 0 rfl) ?_
    refine a_getp (q := 110) (σ := aG r8.2) (o := 109) (T := TX7) (N := 20) C wU_X7 hw rfl (by decide) rfl 1 (by decide) rfl wF_X7_9 (aG_P rfl rfl) dX7_status_15 ?_
    refine lv_iload_n hx hb dX7_status_18 rfl (lv_at hl 1 rfl) ?_
    obtain ⟨hi, hM⟩ := h_i hM
    refine a_iald (σ := aG r8.2) (o := 110) C hw rfl hi rfl dX7_status_19 ?_
    refine lv_goto (tgt := 24) hx hb dX7_status_20 (by decide) ?_
    cases h_e hM
    exact a_iret C hw dX7_status_24
