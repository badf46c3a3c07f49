def m_X7_show (x1 : Int32) (ι : iS) : Option (Int32 × iS) := Option.bind (m_X7_isPerson x1 (pI ι 109 0 (0 : Int32))) fun r8 => if r8.1 = 0 then Option.bind (m_X7_bad (1 : Int32) (1 : Int32) (0 : Int32) r8.2) fun r21 => if r21.1 = 0 then Option.bind (m_X7_placeOf x1 r21.2) fun r30 => if r30.1 = (-1 : Int32) then if (gI r30.2 112 3) = (8 : Int32) then Option.bind (m_X7_bad (1 : Int32) (2 : Int32) (2 : Int32) r30.2) fun r55 => if r55.1 = 0 then Option.bind (m_X7_remembers r55.2) fun r64 => if aIn ((99 : Int32) + (gI r64 112 3)) 883 = true then some ((gI (pI (pI r64 112 ((99 : Int32) + (gI r64 112 3)).toNatClampNeg x1) 112 3 ((gI (pI r64 112 ((99 : Int32) + (gI r64 112 3)).toNatClampNeg x1) 112 3) + (1 : Int32))) 112 3), (pI (pI r64 112 ((99 : Int32) + (gI r64 112 3)).toNatClampNeg x1) 112 3 ((gI (pI r64 112 ((99 : Int32) + (gI r64 112 3)).toNatClampNeg x1) 112 3) + (1 : Int32)))) else none else some ((0 : Int32), r55.2) else Option.bind (m_X7_bad (0 : Int32) (2 : Int32) (2 : Int32) r30.2) fun r55 => if r55.1 = 0 then Option.bind (m_X7_remembers r55.2) fun r64 => if aIn ((99 : Int32) + (gI r64 112 3)) 883 = true then some ((gI (pI (pI r64 112 ((99 : Int32) + (gI r64 112 3)).toNatClampNeg x1) 112 3 ((gI (pI r64 112 ((99 : Int32) + (gI r64 112 3)).toNatClampNeg x1) 112 3) + (1 : Int32))) 112 3), (pI (pI r64 112 ((99 : Int32) + (gI r64 112 3)).toNatClampNeg x1) 112 3 ((gI (pI r64 112 ((99 : Int32) + (gI r64 112 3)).toNatClampNeg x1) 112 3) + (1 : Int32)))) else none else some ((0 : Int32), r55.2) else Option.bind (m_X7_bad (1 : Int32) (2 : Int32) (2 : Int32) r30.2) fun r55 => if r55.1 = 0 then Option.bind (m_X7_remembers r55.2) fun r64 => if aIn ((99 : Int32) + (gI r64 112 3)) 883 = true then some ((gI (pI (pI r64 112 ((99 : Int32) + (gI r64 112 3)).toNatClampNeg x1) 112 3 ((gI (pI r64 112 ((99 : Int32) + (gI r64 112 3)).toNatClampNeg x1) 112 3) + (1 : Int32))) 112 3), (pI (pI r64 112 ((99 : Int32) + (gI r64 112 3)).toNatClampNeg x1) 112 3 ((gI (pI r64 112 ((99 : Int32) + (gI r64 112 3)).toNatClampNeg x1) 112 3) + (1 : Int32)))) else none else some ((0 : Int32), r55.2) else some ((0 : Int32), r21.2) else Option.bind (m_X7_bad (0 : Int32) (1 : Int32) (0 : Int32) r8.2) fun r21 => if r21.1 = 0 then Option.bind (m_X7_placeOf x1 r21.2) fun r30 => if r30.1 = (-1 : Int32) then if (gI r30.2 112 3) = (8 : Int32) then Option.bind (m_X7_bad (1 : Int32) (2 : Int32) (2 : Int32) r30.2) fun r55 => if r55.1 = 0 then Option.bind (m_X7_remembers r55.2) fun r64 => if aIn ((99 : Int32) + (gI r64 112 3)) 883 = true then some ((gI (pI (pI r64 112 ((99 : Int32) + (gI r64 112 3)).toNatClampNeg x1) 112 3 ((gI (pI r64 112 ((99 : Int32) + (gI r64 112 3)).toNatClampNeg x1) 112 3) + (1 : Int32))) 112 3), (pI (pI r64 112 ((99 : Int32) + (gI r64 112 3)).toNatClampNeg x1) 112 3 ((gI (pI r64 112 ((99 : Int32) + (gI r64 112 3)).toNatClampNeg x1) 112 3) + (1 : Int32)))) else none else some ((0 : Int32), r55.2) else Option.bind (m_X7_bad (0 : Int32) (2 : Int32) (2 : Int32) r30.2) fun r55 => if r55.1 = 0 then Option.bind (m_X7_remembers r55.2) fun r64 => if aIn ((99 : Int32) + (gI r64 112 3)) 883 = true then some ((gI (pI (pI r64 112 ((99 : Int32) + (gI r64 112 3)).toNatClampNeg x1) 112 3 ((gI (pI r64 112 ((99 : Int32) + (gI r64 112 3)).toNatClampNeg x1) 112 3) + (1 : Int32))) 112 3), (pI (pI r64 112 ((99 : Int32) + (gI r64 112 3)).toNatClampNeg x1) 112 3 ((gI (pI r64 112 ((99 : Int32) + (gI r64 112 3)).toNatClampNeg x1) 112 3) + (1 : Int32)))) else none else some ((0 : Int32), r55.2) else Option.bind (m_X7_bad (1 : Int32) (2 : Int32) (2 : Int32) r30.2) fun r55 => if r55.1 = 0 then Option.bind (m_X7_remembers r55.2) fun r64 => if aIn ((99 : Int32) + (gI r64 112 3)) 883 = true then some ((gI (pI (pI r64 112 ((99 : Int32) + (gI r64 112 3)).toNatClampNeg x1) 112 3 ((gI (pI r64 112 ((99 : Int32) + (gI r64 112 3)).toNatClampNeg x1) 112 3) + (1 : Int32))) 112 3), (pI (pI r64 112 ((99 : Int32) + (gI r64 112 3)).toNatClampNeg x1) 112 3 ((gI (pI r64 112 ((99 : Int32) + (gI r64 112 3)).toNatClampNeg x1) 112 3) + (1 : Int32)))) else none else some ((0 : Int32), r55.2) else some ((0 : Int32), r21.2)
def m_X7_isPlace (x1 : Int32) (ι : iS) : Option (Int32 × iS) := Option.bind (m_X7_in x1 (0 : Int32) ((gI ι 112 3) - (1 : Int32)) ι) fun r10 => if r10.1 = 0 ∨ r10.1 = 1 then some (r10.1, r10.2) else none
def l_X7_hide_45 : Nat → Int32 → Int32 → iS → Option (Int32 × iS)
  | 0, _, _, _ => none
  | n + 1, y1, y2, ι => if (gI ι 112 3) ≤ y2 then some ((gI ι 112 3), ι) else if aIn (((99 : Int32) + y2) + (1 : Int32)) 883 = true then if aIn ((99 : Int32) + y2) 883 = true then l_X7_hide_45 n y1 (y2 + 1) (pI ι 112 ((99 : Int32) + y2).toNatClampNeg (gI ι 112 (((99 : Int32) + y2) + (1 : Int32)).toNatClampNeg)) else none else none
def m_X7_hide (x1 : Int32) (ι : iS) : Option (Int32 × iS) := Option.bind (m_X7_isPlace x1 (pI ι 109 0 (0 : Int32))) fun r8 => if r8.1 = 0 then Option.bind (m_X7_bad (1 : Int32) (1 : Int32) (0 : Int32) r8.2) fun r21 => if r21.1 = 0 then Option.bind (m_X7_remembers r21.2) fun r30 => l_X7_hide_45 aF x1 x1 (pI r30 112 3 ((gI r30 112 3) - (1 : Int32))) else some ((0 : Int32), r21.2) else Option.bind (m_X7_bad (0 : Int32) (1 : Int32) (0 : Int32) r8.2) fun r21 => if r21.1 = 0 then Option.bind (m_X7_remembers r21.2) fun r30 => l_X7_hide_45 aF x1 x1 (pI r30 112 3 ((gI r30 112 3) - (1 : Int32))) else some ((0 : Int32), r21.2)
def m_X7_change (x1 : Int32) (x2 : Int32) (ι : iS) : Option (Int32 × iS) := if x1 = 0 then Option.bind (m_X7_in x1 (0 : Int32) (3 : Int32) (pI ι 109 0 (0 : Int32))) fun r40 => if r40.1 = 0 then Option.bind (m_X7_bad (1 : Int32) (1 : Int32) (1 : Int32) r40.2) fun r71 => if r71.1 = 0 then Option.bind (m_X7_remembers r71.2) fun r80 => if aIn ((4 : Int32) + x1) 883 = true then if aIn ((4 : Int32) + x1) 883 = true then some ((gI r80 112 ((4 : Int32) + x1).toNatClampNeg), (pI r80 112 ((4 : Int32) + x1).toNatClampNeg x2)) else none else none else some ((0 : Int32), r71.2) else if x1 = (3 : Int32) then Option.bind (m_X7_in x2 (1 : Int32) (5 : Int32) r40.2) fun r58 => if r58.1 = 0 then Option.bind (m_X7_bad (1 : Int32) (1 : Int32) (1 : Int32) r58.2) fun r71 => if r71.1 = 0 then Option.bind (m_X7_remembers r71.2) fun r80 => if aIn ((4 : Int32) + x1) 883 = true then if aIn ((4 : Int32) + x1) 883 = true then some ((gI r80 112 ((4 : Int32) + x1).toNatClampNeg), (pI r80 112 ((4 : Int32) + x1).toNatClampNeg x2)) else none else none else some ((0 : Int32), r71.2) else Option.bind (m_X7_bad (0 : Int32) (1 : Int32) (1 : Int32) r58.2) fun r71 => if r71.1 = 0 then Option.bind (m_X7_remembers r71.2) fun r80 => if aIn ((4 : Int32) + x1) 883 = true then if aIn ((4 : Int32) + x1) 883 = true then some ((gI r80 112 ((4 : Int32) + x1).toNatClampNeg), (pI r80 112 ((4 : Int32) + x1).toNatClampNeg x2)) else none else none else some ((0 : Int32), r71.2) else Option.bind (m_X7_in x2 (0 : Int32) (5 : Int32) r40.2) fun r58 => if r58.1 = 0 then Option.bind (m_X7_bad (1 : Int32) (1 : Int32) (1 : Int32) r58.2) fun r71 => if r71.1 = 0 then Option.bind (m_X7_remembers r71.2) fun r80 => if aIn ((4 : Int32) + x1) 883 = true then if aIn ((4 : Int32) + x1) 883 = true then some ((gI r80 112 ((4 : Int32) + x1).toNatClampNeg), (pI r80 112 ((4 : Int32) + x1).toNatClampNeg x2)) else none else none else some ((0 : Int32), r71.2) else Option.bind (m_X7_bad (0 : Int32) (1 : Int32) (1 : Int32) r58.2) fun r71 => if r71.1 = 0 then Option.bind (m_X7_remembers r71.2) fun r80 => if aIn ((4 : Int32) + x1) 883 = true then if aIn ((4 : Int32) + x1) 883 = true then some ((gI r80 112 ((4 : Int32) + x1).toNatClampNeg), (pI r80 112 ((4 : Int32) + x1).toNatClampNeg x2)) else none else none else some ((0 : Int32), r71.2) else if x1 = (1 : Int32) then Option.bind (m_X7_in x1 (0 : Int32) (3 : Int32) (pI ι 109 0 (0 : Int32))) fun r40 => if r40.1 = 0 then Option.bind (m_X7_bad (1 : Int32) (1 : Int32) (1 : Int32) r40.2) fun r71 => if r71.1 = 0 then Option.bind (m_X7_remembers r71.2) fun r80 => if aIn ((4 : Int32) + x1) 883 = true then if aIn ((4 : Int32) + x1) 883 = true then some ((gI r80 112 ((4 : Int32) + x1).toNatClampNeg), (pI r80 112 ((4 : Int32) + x1).toNatClampNeg x2)) else none else none else some ((0 : Int32), r71.2) else if x1 = (3 : Int32) then Option.bind (m_X7_in x2 (1 : Int32) (120 : Int32) r40.2) fun r58 => if r58.1 = 0 then Option.bind (m_X7_bad (1 : Int32) (1 : Int32) (1 : Int32) r58.2) fun r71 => if r71.1 = 0 then Option.bind (m_X7_remembers r71.2) fun r80 => if aIn ((4 : Int32) + x1) 883 = true then if aIn ((4 : Int32) + x1) 883 = true then some ((gI r80 112 ((4 : Int32) + x1).toNatClampNeg), (pI r80 112 ((4 : Int32) + x1).toNatClampNeg x2)) else none else none else some ((0 : Int32), r71.2) else Option.bind (m_X7_bad (0 : Int32) (1 : Int32) (1 : Int32) r58.2) fun r71 => if r71.1 = 0 then Option.bind (m_X7_remembers r71.2) fun r80 => if aIn ((4 : Int32) + x1) 883 = true then if aIn ((4 : Int32) + x1) 883 = true then some ((gI r80 112 ((4 : Int32) + x1).toNatClampNeg), (pI r80 112 ((4 : Int32) + x1).toNatClampNeg x2)) else none else none else some ((0 : Int32), r71.2) else Option.bind (m_X7_in x2 (0 : Int32) (120 : Int32) r40.2) fun r58 => if r58.1 = 0 then Option.bind (m_X7_bad (1 : Int32) (1 : Int32) (1 : Int32) r58.2) fun r71 => if r71.1 = 0 then Option.bind (m_X7_remembers r71.2) fun r80 => if aIn ((4 : Int32) + x1) 883 = true then if aIn ((4 : Int32) + x1) 883 = true then some ((gI r80 112 ((4 : Int32) + x1).toNatClampNeg), (pI r80 112 ((4 : Int32) + x1).toNatClampNeg x2)) else none else none else some ((0 : Int32), r71.2) else Option.bind (m_X7_bad (0 : Int32) (1 : Int32) (1 : Int32) r58.2) fun r71 => if r71.1 = 0 then Option.bind (m_X7_remembers r71.2) fun r80 => if aIn ((4 : Int32) + x1) 883 = true then if aIn ((4 : Int32) + x1) 883 = true then some ((gI r80 112 ((4 : Int32) + x1).toNatClampNeg), (pI r80 112 ((4 : Int32) + x1).toNatClampNeg x2)) else none else none else some ((0 : Int32), r71.2) else if x1 = (2 : Int32) then Option.bind (m_X7_in x1 (0 : Int32) (3 : Int32) (pI ι 109 0 (0 : Int32))) fun r40 => if r40.1 = 0 then Option.bind (m_X7_bad (1 : Int32) (1 : Int32) (1 : Int32) r40.2) fun r71 => if r71.1 = 0 then Option.bind (m_X7_remembers r71.2) fun r80 => if aIn ((4 : Int32) + x1) 883 = true then if aIn ((4 : Int32) + x1) 883 = true then some ((gI r80 112 ((4 : Int32) + x1).toNatClampNeg), (pI r80 112 ((4 : Int32) + x1).toNatClampNeg x2)) else none else none else some ((0 : Int32), r71.2) else if x1 = (3 : Int32) then Option.bind (m_X7_in x2 (1 : Int32) (20 : Int32) r40.2) fun r58 => if r58.1 = 0 then Option.bind (m_X7_bad (1 : Int32) (1 : Int32) (1 : Int32) r58.2) fun r71 => if r71.1 = 0 then Option.bind (m_X7_remembers r71.2) fun r80 => if aIn ((4 : Int32) + x1) 883 = true then if aIn ((4 : Int32) + x1) 883 = true then some ((gI r80 112 ((4 : Int32) + x1).toNatClampNeg), (pI r80 112 ((4 : Int32) + x1).toNatClampNeg x2)) else none else none else some ((0 : Int32), r71.2) else Option.bind (m_X7_bad (0 : Int32) (1 : Int32) (1 : Int32) r58.2) fun r71 => if r71.1 = 0 then Option.bind (m_X7_remembers r71.2) fun r80 => if aIn ((4 : Int32) + x1) 883 = true then if aIn ((4 : Int32) + x1) 883 = true then some ((gI r80 112 ((4 : Int32) + x1).toNatClampNeg), (pI r80 112 ((4 : Int32) + x1).toNatClampNeg x2)) else none else none else some ((0 : Int32), r71.2) else Option.bind (m_X7_in x2 (0 : Int32) (20 : Int32) r40.2) fun r58 => if r58.1 = 0 then Option.bind (m_X7_bad (1 : Int32) (1 : Int32) (1 : Int32) r58.2) fun r71 => if r71.1 = 0 then Option.bind (m_X7_remembers r71.2) fun r80 => if aIn ((4 : Int32) + x1) 883 = true then if aIn ((4 : Int32) + x1) 883 = true then some ((gI r80 112 ((4 : Int32) + x1).toNatClampNeg), (pI r80 112 ((4 : Int32) + x1).toNatClampNeg x2)) else none else none else some ((0 : Int32), r71.2) else Option.bind (m_X7_bad (0 : Int32) (1 : Int32) (1 : Int32) r58.2) fun r71 => if r71.1 = 0 then Option.bind (m_X7_remembers r71.2) fun r80 => if aIn ((4 : Int32) + x1) 883 = true then if aIn ((4 : Int32) + x1) 883 = true then some ((gI r80 112 ((4 : Int32) + x1).toNatClampNeg), (pI r80 112 ((4 : Int32) + x1).toNatClampNeg x2)) else none else none else some ((0 : Int32), r71.2) else Option.bind (m_X7_in x1 (0 : Int32) (3 : Int32) (pI ι 109 0 (0 : Int32))) fun r40 => if r40.1 = 0 then Option.bind (m_X7_bad (1 : Int32) (1 : Int32) (1 : Int32) r40.2) fun r71 => if r71.1 = 0 then Option.bind (m_X7_remembers r71.2) fun r80 => if aIn ((4 : Int32) + x1) 883 = true then if aIn ((4 : Int32) + x1) 883 = true then some ((gI r80 112 ((4 : Int32) + x1).toNatClampNeg), (pI r80 112 ((4 : Int32) + x1).toNatClampNeg x2)) else none else none else some ((0 : Int32), r71.2) else if x1 = (3 : Int32) then Option.bind (m_X7_in x2 (1 : Int32) (99 : Int32) r40.2) fun r58 => if r58.1 = 0 then Option.bind (m_X7_bad (1 : Int32) (1 : Int32) (1 : Int32) r58.2) fun r71 => if r71.1 = 0 then Option.bind (m_X7_remembers r71.2) fun r80 => if aIn ((4 : Int32) + x1) 883 = true then if aIn ((4 : Int32) + x1) 883 = true then some ((gI r80 112 ((4 : Int32) + x1).toNatClampNeg), (pI r80 112 ((4 : Int32) + x1).toNatClampNeg x2)) else none else none else some ((0 : Int32), r71.2) else Option.bind (m_X7_bad (0 : Int32) (1 : Int32) (1 : Int32) r58.2) fun r71 => if r71.1 = 0 then Option.bind (m_X7_remembers r71.2) fun r80 => if aIn ((4 : Int32) + x1) 883 = true then if aIn ((4 : Int32) + x1) 883 = true then some ((gI r80 112 ((4 : Int32) + x1).toNatClampNeg), (pI r80 112 ((4 : Int32) + x1).toNatClampNeg x2)) else none else none else some ((0 : Int32), r71.2) else Option.bind (m_X7_in x2 (0 : Int32) (99 : Int32) r40.2) fun r58 => if r58.1 = 0 then Option.bind (m_X7_bad (1 : Int32) (1 : Int32) (1 : Int32) r58.2) fun r71 => if r71.1 = 0 then Option.bind (m_X7_remembers r71.2) fun r80 => if aIn ((4 : Int32) + x1) 883 = true then if aIn ((4 : Int32) + x1) 883 = true then some ((gI r80 112 ((4 : Int32) + x1).toNatClampNeg), (pI r80 112 ((4 : Int32) + x1).toNatClampNeg x2)) else none else none else some ((0 : Int32), r71.2) else Option.bind (m_X7_bad (0 : Int32) (1 : Int32) (1 : Int32) r58.2) fun r71 => if r71.1 = 0 then Option.bind (m_X7_remembers r71.2) fun r80 => if aIn ((4 : Int32) + x1) 883 = true then if aIn ((4 : Int32) + x1) 883 = true then some ((gI r80 112 ((4 : Int32) + x1).toNatClampNeg), (pI r80 112 ((4 : Int32) + x1).toNatClampNeg x2)) else none else none else some ((0 : Int32), r71.2)
def m_X7_mock (x1 : Int32) (ι : iS) : Option (Int32 × iS) := Option.bind (m_X7_isPerson x1 (pI ι 109 0 (0 : Int32))) fun r8 => if r8.1 = 0 then Option.bind (m_X7_bad (1 : Int32) (1 : Int32) (0 : Int32) r8.2) fun r21 => if r21.1 = 0 then Option.bind (m_X7_placeOf x1 r21.2) fun r30 => if r30.1 = (-1 : Int32) then Option.bind (m_X7_bad (1 : Int32) (2 : Int32) (2 : Int32) r30.2) fun r59 => if r59.1 = 0 then Option.bind (m_X7_remembers r59.2) fun r68 => if aIn ((107 : Int32) + x1) 883 = true then if aIn ((107 : Int32) + x1) 883 = true then if aIn ((107 : Int32) + x1) 883 = true then some ((gI (pI r68 112 ((107 : Int32) + x1).toNatClampNeg ((gI r68 112 ((107 : Int32) + x1).toNatClampNeg) + (1 : Int32))) 112 ((107 : Int32) + x1).toNatClampNeg), (pI r68 112 ((107 : Int32) + x1).toNatClampNeg ((gI r68 112 ((107 : Int32) + x1).toNatClampNeg) + (1 : Int32)))) else none else none else none else some ((0 : Int32), r59.2) else if aIn ((107 : Int32) + x1) 883 = true then if (gI r30.2 112 ((107 : Int32) + x1).toNatClampNeg) = (999 : Int32) then Option.bind (m_X7_bad (1 : Int32) (2 : Int32) (2 : Int32) r30.2) fun r59 => if r59.1 = 0 then Option.bind (m_X7_remembers r59.2) fun r68 => if aIn ((107 : Int32) + x1) 883 = true then if aIn ((107 : Int32) + x1) 883 = true then if aIn ((107 : Int32) + x1) 883 = true then some ((gI (pI r68 112 ((107 : Int32) + x1).toNatClampNeg ((gI r68 112 ((107 : Int32) + x1).toNatClampNeg) + (1 : Int32))) 112 ((107 : Int32) + x1).toNatClampNeg), (pI r68 112 ((107 : Int32) + x1).toNatClampNeg ((gI r68 112 ((107 : Int32) + x1).toNatClampNeg) + (1 : Int32)))) else none else none else none else some ((0 : Int32), r59.2) else Option.bind (m_X7_bad (0 : Int32) (2 : Int32) (2 : Int32) r30.2) fun r59 => if r59.1 = 0 then Option.bind (m_X7_remembers r59.2) fun r68 => if aIn ((107 : Int32) + x1) 883 = true then if aIn ((107 : Int32) + x1) 883 = true then if aIn ((107 : Int32) + x1) 883 = true then some ((gI (pI r68 112 ((107 : Int32) + x1).toNatClampNeg ((gI r68 112 ((107 : Int32) + x1).toNatClampNeg) + (1 : Int32))) 112 ((107 : Int32) + x1).toNatClampNeg), (pI r68 112 ((107 : Int32) + x1).toNatClampNeg ((gI r68 112 ((107 : Int32) + x1).toNatClampNeg) + (1 : Int32)))) else none else none else none else some ((0 : Int32), r59.2) else none else some ((0 : Int32), r21.2) else Option.bind (m_X7_bad (0 : Int32) (1 : Int32) (0 : Int32) r8.2) fun r21 => if r21.1 = 0 then Option.bind (m_X7_placeOf x1 r21.2) fun r30 => if r30.1 = (-1 : Int32) then Option.bind (m_X7_bad (1 : Int32) (2 : Int32) (2 : Int32) r30.2) fun r59 => if r59.1 = 0 then Option.bind (m_X7_remembers r59.2) fun r68 => if aIn ((107 : Int32) + x1) 883 = true then if aIn ((107 : Int32) + x1) 883 = true then if aIn ((107 : Int32) + x1) 883 = true then some ((gI (pI r68 112 ((107 : Int32) + x1).toNatClampNeg ((gI r68 112 ((107 : Int32) + x1).toNatClampNeg) + (1 : Int32))) 112 ((107 : Int32) + x1).toNatClampNeg), (pI r68 112 ((107 : Int32) + x1).toNatClampNeg ((gI r68 112 ((107 : Int32) + x1).toNatClampNeg) + (1 : Int32)))) else none else none else none else some ((0 : Int32), r59.2) else if aIn ((107 : Int32) + x1) 883 = true then if (gI r30.2 112 ((107 : Int32) + x1).toNatClampNeg) = (999 : Int32) then Option.bind (m_X7_bad (1 : Int32) (2 : Int32) (2 : Int32) r30.2) fun r59 => if r59.1 = 0 then Option.bind (m_X7_remembers r59.2) fun r68 => if aIn ((107 : Int32) + x1) 883 = true then if aIn ((107 : Int32) + x1) 883 = true then if aIn ((107 : Int32) + x1) 883 = true then some ((gI (pI r68 112 ((107 : Int32) + x1).toNatClampNeg ((gI r68 112 ((107 : Int32) + x1).toNatClampNeg) + (1 : Int32))) 112 ((107 : Int32) + x1).toNatClampNeg), (pI r68 112 ((107 : Int32) + x1).toNatClampNeg ((gI r68 112 ((107 : Int32) + x1).toNatClampNeg) + (1 : Int32)))) else none else none else none else some ((0 : Int32), r59.2) else Option.bind (m_X7_bad (0 : Int32) (2 : Int32) (2 : Int32) r30.2) fun r59 => if r59.1 = 0 then Option.bind (m_X7_remembers r59.2) fun r68 => if aIn ((107 : Int32) + x1) 883 = true then if aIn ((107 : Int32) + x1) 883 = true then if aIn ((107 : Int32) + x1) 883 = true then some ((gI (pI r68 112 ((107 : Int32) + x1).toNatClampNeg ((gI r68 112 ((107 : Int32) + x1).toNatClampNeg) + (1 : Int32))) 112 ((107 : Int32) + x1).toNatClampNeg), (pI r68 112 ((107 : Int32) + x1).toNatClampNeg ((gI r68 112 ((107 : Int32) + x1).toNatClampNeg) + (1 : Int32)))) else none else none else none else some ((0 : Int32), r59.2) else none else some ((0 : Int32), r21.2)
def l_X7_told_35 : Nat → Int32 → Int32 → Int32 → iS → Option (Int32 × iS)
  | 0, _, _, _, _ => none
  | n + 1, y1, y2, y3, ι => if (16 : Int32) ≤ y3 then if y1 = 0 then some ((gI ι 112 0), ι) else if y1 = 1 then Option.bind (m_X7_persons ι) fun r124 => some (r124.1, r124.2) else if y1 = 2 then some ((gI ι 112 3), ι) else if y1 = 3 then if aIn (((4 : Int32) + y1) - (3 : Int32)) 883 = true then some ((gI ι 112 (((4 : Int32) + y1) - (3 : Int32)).toNatClampNeg), ι) else none else if y1 = 4 then if aIn (((4 : Int32) + y1) - (3 : Int32)) 883 = true then some ((gI ι 112 (((4 : Int32) + y1) - (3 : Int32)).toNatClampNeg), ι) else none else if y1 = 5 then if aIn (((4 : Int32) + y1) - (3 : Int32)) 883 = true then some ((gI ι 112 (((4 : Int32) + y1) - (3 : Int32)).toNatClampNeg), ι) else none else if y1 = 6 then if aIn (((4 : Int32) + y1) - (3 : Int32)) 883 = true then some ((gI ι 112 (((4 : Int32) + y1) - (3 : Int32)).toNatClampNeg), ι) else none else if y1 = 7 then some (y2, ι) else if y1 = 8 then some ((gI ι 109 2), ι) else if y1 = 9 then some ((gI ι 109 12), ι) else if aIn (((4 : Int32) + y1) - (3 : Int32)) 883 = true then some ((gI ι 112 (((4 : Int32) + y1) - (3 : Int32)).toNatClampNeg), ι) else none else if aIn ((107 : Int32) + y3) 883 = true then l_X7_told_35 n y1 (y2 + (gI ι 112 ((107 : Int32) + y3).toNatClampNeg)) (y3 + 1) ι else none
def m_X7_told (x1 : Int32) (ι : iS) : Option (Int32 × iS) := Option.bind (m_X7_in x1 (0 : Int32) (9 : Int32) (pI ι 109 0 (0 : Int32))) fun r10 => if r10.1 = 0 then Option.bind (m_X7_bad (1 : Int32) (1 : Int32) (1 : Int32) r10.2) fun r23 => if r23.1 = 0 then l_X7_told_35 aF x1 (0 : Int32) (0 : Int32) r23.2 else some ((0 : Int32), r23.2) else Option.bind (m_X7_bad (0 : Int32) (1 : Int32) (1 : Int32) r10.2) fun r23 => if r23.1 = 0 then l_X7_told_35 aF x1 (0 : Int32) (0 : Int32) r23.2 else some ((0 : Int32), r23.2)
def m_X7_trait (x1 : Int32) (x2 : Int32) (ι : iS) : Option (Int32 × iS) := Option.bind (m_X7_isTrait x1 (pI ι 109 0 (0 : Int32))) fun r8 => if r8.1 = 0 then Option.bind (m_X7_bad (1 : Int32) (1 : Int32) (0 : Int32) r8.2) fun r21 => if r21.1 = 0 then Option.bind (m_X7_in x2 (0 : Int32) (1 : Int32) r21.2) fun r31 => if r31.1 = 0 then Option.bind (m_X7_bad (1 : Int32) (2 : Int32) (1 : Int32) r31.2) fun r44 => if r44.1 = 0 then if x2 = 0 then if aIn ((89 : Int32) + x1) 883 = true then some ((gI r44.2 112 ((89 : Int32) + x1).toNatClampNeg), r44.2) else none else if aIn ((94 : Int32) + x1) 883 = true then some ((gI r44.2 112 ((94 : Int32) + x1).toNatClampNeg), r44.2) else none else some ((0 : Int32), r44.2) else Option.bind (m_X7_bad (0 : Int32) (2 : Int32) (1 : Int32) r31.2) fun r44 => if r44.1 = 0 then if x2 = 0 then if aIn ((89 : Int32) + x1) 883 = true then some ((gI r44.2 112 ((89 : Int32) + x1).toNatClampNeg), r44.2) else none else if aIn ((94 : Int32) + x1) 883 = true then some ((gI r44.2 112 ((94 : Int32) + x1).toNatClampNeg), r44.2) else none else some ((0 : Int32), r44.2) else some ((0 : Int32), r21.2) else Option.bind (m_X7_bad (0 : Int32) (1 : Int32) (0 : Int32) r8.2) fun r21 => if r21.1 = 0 then Option.bind (m_X7_in x2 (0 : Int32) (1 : Int32) r21.2) fun r31 => if r31.1 = 0 then Option.bind (m_X7_bad (1 : Int32) (2 : Int32) (1 : Int32) r31.2) fun r44 => if r44.1 = 0 then if x2 = 0 then if aIn ((89 : Int32) + x1) 883 = true then some ((gI r44.2 112 ((89 : Int32) + x1).toNatClampNeg), r44.2) else none else if aIn ((94 : Int32) + x1) 883 = true then some ((gI r44.2 112 ((94 : Int32) + x1).toNatClampNeg), r44.2) else none else some ((0 : Int32), r44.2) else Option.bind (m_X7_bad (0 : Int32) (2 : Int32) (1 : Int32) r31.2) fun r44 => if r44.1 = 0 then if x2 = 0 then if aIn ((89 : Int32) + x1) 883 = true then some ((gI r44.2 112 ((89 : Int32) + x1).toNatClampNeg), r44.2) else none else if aIn ((94 : Int32) + x1) 883 = true then some ((gI r44.2 112 ((94 : Int32) + x1).toNatClampNeg), r44.2) else none else some ((0 : Int32), r44.2) else some ((0 : Int32), r21.2)
def m_X7_value (x1 : Int32) (x2 : Int32) (ι : iS) : Option (Int32 × iS) := Option.bind (m_X7_isPerson x1 (pI ι 109 0 (0 : Int32))) fun r8 => if r8.1 = 0 then Option.bind (m_X7_bad (1 : Int32) (1 : Int32) (0 : Int32) r8.2) fun r29 => if r29.1 = 0 then Option.bind (m_X7_valueOf x1 x2 r29.2) fun r42 => some (r42.1, r42.2) else some ((0 : Int32), r29.2) else Option.bind (m_X7_isTrait x2 r8.2) fun r16 => if r16.1 = 0 then Option.bind (m_X7_bad (1 : Int32) (1 : Int32) (0 : Int32) r16.2) fun r29 => if r29.1 = 0 then Option.bind (m_X7_valueOf x1 x2 r29.2) fun r42 => some (r42.1, r42.2) else some ((0 : Int32), r29.2) else Option.bind (m_X7_bad (0 : Int32) (1 : Int32) (0 : Int32) r16.2) fun r29 => if r29.1 = 0 then Option.bind (m_X7_valueOf x1 x2 r29.2) fun r42 => some (r42.1, r42.2) else some ((0 : Int32), r29.2)
def m_X7_shown (x1 : Int32) (ι : iS) : Option (Int32 × iS) := Option.bind (m_X7_isPlace x1 (pI ι 109 0 (0 : Int32))) fun r8 => if r8.1 = 0 then Option.bind (m_X7_bad (1 : Int32) (1 : Int32) (0 : Int32) r8.2) fun r21 => if r21.1 = 0 then if aIn ((99 : Int32) + x1) 883 = true then some ((gI r21.2 112 ((99 : Int32) + x1).toNatClampNeg), r21.2) else none else some ((0 : Int32), r21.2) else Option.bind (m_X7_bad (0 : Int32) (1 : Int32) (0 : Int32) r8.2) fun r21 => if r21.1 = 0 then if aIn ((99 : Int32) + x1) 883 = true then some ((gI r21.2 112 ((99 : Int32) + x1).toNatClampNeg), r21.2) else none else some ((0 : Int32), r21.2)
def m_X7_match (x1 : Int32) (x2 : Int32) (ι : iS) : Option (Int32 × iS) := Option.bind (m_X7_isPerson x1 (pI ι 109 0 (0 : Int32))) fun r8 => if r8.1 = 0 then Option.bind (m_X7_bad (1 : Int32) (1 : Int32) (0 : Int32) r8.2) fun r21 => if r21.1 = 0 then Option.bind (m_X7_matchOf x1 x2 r21.2) fun r34 => some (r34.1, r34.2) else some ((0 : Int32), r21.2) else Option.bind (m_X7_bad (0 : Int32) (1 : Int32) (0 : Int32) r8.2) fun r21 => if r21.1 = 0 then Option.bind (m_X7_matchOf x1 x2 r21.2) fun r34 => some (r34.1, r34.2) else some ((0 : Int32), r21.2)
def m_X7_mocks (x1 : Int32) (ι : iS) : Option (Int32 × iS) := Option.bind (m_X7_isPerson x1 (pI ι 109 0 (0 : Int32))) fun r8 => if r8.1 = 0 then Option.bind (m_X7_bad (1 : Int32) (1 : Int32) (0 : Int32) r8.2) fun r21 => if r21.1 = 0 then if aIn ((107 : Int32) + x1) 883 = true then some ((gI r21.2 112 ((107 : Int32) + x1).toNatClampNeg), r21.2) else none else some ((0 : Int32), r21.2) else Option.bind (m_X7_bad (0 : Int32) (1 : Int32) (0 : Int32) r8.2) fun r21 => if r21.1 = 0 then if aIn ((107 : Int32) + x1) 883 = true then some ((gI r21.2 112 ((107 : Int32) + x1).toNatClampNeg), r21.2) else none else some ((0 : Int32), r21.2)
def l_X7_alike_42 : Nat → Int32 → Int32 → Int32 → Int32 → iS → Option (Int32 × iS)
  | 0, _, _, _, _, _ => none
  | n + 1, y1, y2, y3, y4, ι => if (gI ι 112 0) ≤ y4 then some (y3, ι) else Option.bind (m_X7_valueOf y1 y4 ι) fun r58 => Option.bind (m_X7_valueOf y2 y4 r58.2) fun r65 => if r58.1 = r65.1 then l_X7_alike_42 n y1 y2 (y3 ||| ((1 : Int32) <<< (y4 &&& 31))) (y4 + 1) r65.2 else l_X7_alike_42 n y1 y2 (y3 ||| (0 : Int32)) (y4 + 1) r65.2
def m_X7_alike (x1 : Int32) (x2 : Int32) (ι : iS) : Option (Int32 × iS) := Option.bind (m_X7_isPerson x1 (pI ι 109 0 (0 : Int32))) fun r8 => if r8.1 = 0 then Option.bind (m_X7_bad (1 : Int32) (1 : Int32) (0 : Int32) r8.2) fun r29 => if r29.1 = 0 then l_X7_alike_42 aF x1 x2 (0 : Int32) (0 : Int32) r29.2 else some ((0 : Int32), r29.2) else Option.bind (m_X7_isPerson x2 r8.2) fun r16 => if r16.1 = 0 then Option.bind (m_X7_bad (1 : Int32) (1 : Int32) (0 : Int32) r16.2) fun r29 => if r29.1 = 0 then l_X7_alike_42 aF x1 x2 (0 : Int32) (0 : Int32) r29.2 else some ((0 : Int32), r29.2) else Option.bind (m_X7_bad (0 : Int32) (1 : Int32) (0 : Int32) r16.2) fun r29 => if r29.1 = 0 then l_X7_alike_42 aF x1 x2 (0 : Int32) (0 : Int32) r29.2 else some ((0 : Int32), r29.2)
def rm_X7_show : Room := { frames := 2, cells := 0, slots := 0, locals := 43 }
theorem k_X7_show : aCal RX7 yX7_show cX7_show 2 (some .int) 1 := ⟨wI_yX7_show, wE_yX7_show, wZ_X7, wC_yX7_show, by decide +kernel⟩
set_option maxHeartbeats 4000000 in
set_option maxRecDepth 100000 in
theorem c_X7_show (l : Launch) {x1 : Int32} {ι : iS} {res : Int32 × iS} (hM : m_X7_show x1 ι = some res) : aM l yX7_show cX7_show 2 (some .int) rm_X7_show (fun ad => [.ref (ad 109), .int x1]) (aG ι) (some (.int res.1)) (aG res.2) := by
  refine aM.of (by decide) (fun _ => Nat.le_of_ble_eq_true rfl) ?_
  intro p e s m args below meth c D dA ad adV A ls C hw hl
  have C : aX p m c cX7_show 2 s args aTs RX7 meth (some .int) := C
  have hx := C.1.1
  have hb := C.1.2.1
  have hml := C.1.2.2.1
  have hown := C.1.2.2.2.1
  have hts := C.1.2.2.2.2
  have hl : lv_has ls 2 [(0, .ref (ad 109)), (1, .int x1)] := hl
  unfold m_X7_show at hM
  refine lv_aload_n hx hb dX7_show_0 rfl (lv_at hl 0 rfl) ?_
  refine lv_iconst (v := (0 : Int32)) hx hb dX7_show_1 (by decide) ?_
  refine a_puti (ty := .int) (σ := aG ι) (o := 109) (T := TX7) (N := 20) (ty0 := tyX7) C wU_X7 tyX7_ok nmX7 hw rfl (by decide) rfl 0 (by decide) rfl wF_X7_42 rfl (by decide +kernel) rfl rfl dX7_show_2 (fun H locs hw => ?_)
  have hw : aW D dA ad adV (aG (pI ι 109 0 (0 : Int32))) A s H locs := hw
  refine lv_aload_n hx hb dX7_show_5 rfl (lv_at hl 0 rfl) ?_
  refine lv_aload_n hx hb dX7_show_6 rfl (lv_at hl 0 rfl) ?_
  refine lv_iload_n hx hb dX7_show_7 rfl (lv_at hl 1 rfl) ?_
  obtain ⟨r8, hr8, hM⟩ := h_b hM
  refine a_callV (σ' := aG r8.2) (v := (some (.int r8.1))) (As := fun ad => [.int x1]) (rest := [.ref (ad 109)]) (o := 109) C hw (c_X7_isPerson l hr8) k_X7_isPerson wM_X7_207 ⟨⟨rfl, rfl⟩, ⟨Nat.le_of_ble_eq_true rfl, Nat.le_of_ble_eq_true rfl⟩⟩ rfl (by decide) rfl rfl rfl hl rfl (Nat.le_of_ble_eq_true rfl) dX7_show_8 ⟨Nat.zero_le _, Nat.zero_le _⟩ (fun H locs hw => ?_)
  refine lv_if_ne (tgt := 18) hx hb dX7_show_11 (by decide) (fun hc => ?_) (fun hc => ?_)
  · replace hM := h_f hc hM
    refine lv_iconst (v := (0 : Int32)) hx hb dX7_show_18 (by decide) ?_
    refine lv_iconst (v := (1 : Int32)) hx hb dX7_show_19 (by decide) ?_
    refine lv_iconst (v := (0 : Int32)) hx hb dX7_show_20 (by decide) ?_
    obtain ⟨r21, hr21, hM⟩ := h_b hM
    refine a_callV (σ' := aG r21.2) (v := (some (.int r21.1))) (As := fun ad => [.int (0 : Int32), .int (1 : Int32), .int (0 : Int32)]) (rest := []) (o := 109) C hw (c_X7_bad l hr21) k_X7_bad wM_X7_164 ⟨⟨rfl, rfl⟩, ⟨Nat.le_of_ble_eq_true rfl, Nat.le_of_ble_eq_true rfl⟩⟩ rfl (by decide) rfl rfl rfl hl rfl (Nat.le_of_ble_eq_true rfl) dX7_show_21 ⟨Nat.zero_le _, Nat.zero_le _⟩ (fun H locs hw => ?_)
    refine lv_if_ne (tgt := 61) hx hb dX7_show_24 (by decide) (fun hc => ?_) (fun hc => ?_)
    · replace hM := h_f hc hM
      refine lv_iconst (v := (0 : Int32)) hx hb dX7_show_61 (by decide) ?_
      cases h_e hM
      exact a_iret C hw dX7_show_62
    · replace hM := h_t hc hM
      refine lv_aload_n hx hb dX7_show_27 rfl (lv_at hl 0 rfl) ?_
      refine lv_aload_n hx hb dX7_show_28 rfl (lv_at hl 0 rfl) ?_
      refine lv_iload_n hx hb dX7_show_29 rfl (lv_at hl 1 rfl) ?_
      obtain ⟨r30, hr30, hM⟩ := h_b hM
      refine a_callV (σ' := aG r30.2) (v := (some (.int r30.1))) (As := fun ad => [.int x1]) (rest := [.ref (ad 109)]) (o := 109) C hw (c_X7_placeOf l hr30) k_X7_placeOf wM_X7_210 ⟨⟨rfl, rfl⟩, ⟨Nat.le_of_ble_eq_true rfl, Nat.le_of_ble_eq_true rfl⟩⟩ rfl (by decide) rfl rfl rfl hl rfl (Nat.le_of_ble_eq_true rfl) dX7_show_30 ⟨Nat.zero_le _, Nat.zero_le _⟩ (fun H locs hw => ?_)
      refine lv_iconst (v := (-1 : Int32)) hx hb dX7_show_33 (by decide) ?_
      refine lv_icmp_ne (tgt := 48) hx hb dX7_show_34 (by decide) (fun hc => ?_) (fun hc => ?_)
      · replace hM := h_f hc hM
        refine lv_iconst (v := (1 : Int32)) hx hb dX7_show_48 (by decide) ?_
        refine lv_goto (tgt := 53) hx hb dX7_show_49 (by decide) ?_
        refine lv_iconst (v := (2 : Int32)) hx hb dX7_show_53 (by decide) ?_
        refine lv_iconst (v := (2 : Int32)) hx hb dX7_show_54 (by decide) ?_
        obtain ⟨r55, hr55, hM⟩ := h_b hM
        refine a_callV (σ' := aG r55.2) (v := (some (.int r55.1))) (As := fun ad => [.int (1 : Int32), .int (2 : Int32), .int (2 : Int32)]) (rest := []) (o := 109) C hw (c_X7_bad l hr55) k_X7_bad wM_X7_164 ⟨⟨rfl, rfl⟩, ⟨Nat.le_of_ble_eq_true rfl, Nat.le_of_ble_eq_true rfl⟩⟩ rfl (by decide) rfl rfl rfl hl rfl (Nat.le_of_ble_eq_true rfl) dX7_show_55 ⟨Nat.zero_le _, Nat.zero_le _⟩ (fun H locs hw => ?_)
        refine lv_if_eq (tgt := 63) hx hb dX7_show_58 (by decide) (fun hc => ?_) (fun hc => ?_)
        · replace hM := h_t hc hM
          refine lv_aload_n hx hb dX7_show_63 rfl (lv_at hl 0 rfl) ?_
          obtain ⟨r64, hr64, hM⟩ := h_b hM
          refine a_callV (σ' := aG r64) (v := none) (As := fun ad => []) (rest := []) (o := 109) C hw (c_X7_remembers l hr64) k_X7_remembers wM_X7_173 ⟨⟨rfl, rfl⟩, ⟨Nat.le_of_ble_eq_true rfl, Nat.le_of_ble_eq_true rfl⟩⟩ rfl (by decide) rfl rfl rfl hl rfl (Nat.le_of_ble_eq_true rfl) dX7_show_64 ⟨Nat.zero_le _, Nat.zero_le _⟩ (fun H locs hw => ?_)
          refine lv_aload_n hx hb dX7_show_67 rfl (lv_at hl 0 rfl) ?_
          refine a_getp (q := 112) (σ := aG r64) (o := 109) (T := TX7) (N := 20) C wU_X7 hw rfl (by decide) rfl 9 (by decide) rfl wF_X7_20 (aG_P rfl rfl) dX7_show_68 ?_
          refine lv_bipush (v := (99 : Int32)) hx hb dX7_show_71 (by decide) ?_
          refine lv_aload_n hx hb dX7_show_73 rfl (lv_at hl 0 rfl) ?_
          refine a_getp (q := 112) (σ := aG r64) (o := 109) (T := TX7) (N := 20) C wU_X7 hw rfl (by decide) rfl 9 (by decide) rfl wF_X7_20 (aG_P rfl rfl) dX7_show_74 ?_
          refine lv_iconst (v := (3 : Int32)) hx hb dX7_show_77 (by decide) ?_
          refine a_iald (σ := aG r64) (o := 112) C hw rfl (aIn_v (by decide)) (show (3 : Int32).toNatClampNeg = 3 by decide) dX7_show_78 ?_
          refine lv_iadd hx hb dX7_show_79 ?_
          refine lv_iload_n hx hb dX7_show_80 rfl (lv_at hl 1 rfl) ?_
          obtain ⟨hi, hM⟩ := h_i hM
          refine a_iast (σ := aG r64) (o := 112) C hw rfl hi rfl dX7_show_81 (fun H locs hw => ?_)
          have hw : aW D dA ad adV (aG (pI r64 112 ((99 : Int32) + (gI r64 112 3)).toNatClampNeg x1)) A s H locs := hw
          refine lv_aload_n hx hb dX7_show_82 rfl (lv_at hl 0 rfl) ?_
          refine a_getp (q := 112) (σ := aG (pI r64 112 ((99 : Int32) + (gI r64 112 3)).toNatClampNeg x1)) (o := 109) (T := TX7) (N := 20) C wU_X7 hw rfl (by decide) rfl 9 (by decide) rfl wF_X7_20 (aG_P rfl rfl) dX7_show_83 ?_
          refine lv_iconst (v := (3 : Int32)) hx hb dX7_show_86 (by decide) ?_
          refine lv_dup2_11 hx hb dX7_show_87 rfl rfl ?_
          refine a_iald (σ := aG (pI r64 112 ((99 : Int32) + (gI r64 112 3)).toNatClampNeg x1)) (o := 112) C hw rfl (aIn_v (by decide)) (show (3 : Int32).toNatClampNeg = 3 by decide) dX7_show_88 ?_
          refine lv_iconst (v := (1 : Int32)) hx hb dX7_show_89 (by decide) ?_
          refine lv_iadd hx hb dX7_show_90 ?_
          refine a_iast (σ := aG (pI r64 112 ((99 : Int32) + (gI r64 112 3)).toNatClampNeg x1)) (o := 112) C hw rfl (aIn_v (by decide)) (show (3 : Int32).toNatClampNeg = 3 by decide) dX7_show_91 (fun H locs hw => ?_)
          have hw : aW D dA ad adV (aG (pI (pI r64 112 ((99 : Int32) + (gI r64 112 3)).toNatClampNeg x1) 112 3 ((gI (pI r64 112 ((99 : Int32) + (gI r64 112 3)).toNatClampNeg x1) 112 3) + (1 : Int32)))) A s H locs := hw
          refine lv_aload_n hx hb dX7_show_92 rfl (lv_at hl 0 rfl) ?_
          refine a_getp (q := 112) (σ := aG (pI (pI r64 112 ((99 : Int32) + (gI r64 112 3)).toNatClampNeg x1) 112 3 ((gI (pI r64 112 ((99 : Int32) + (gI r64 112 3)).toNatClampNeg x1) 112 3) + (1 : Int32)))) (o := 109) (T := TX7) (N := 20) C wU_X7 hw rfl (by decide) rfl 9 (by decide) rfl wF_X7_20 (aG_P rfl rfl) dX7_show_93 ?_
          refine lv_iconst (v := (3 : Int32)) hx hb dX7_show_96 (by decide) ?_
          refine a_iald (σ := aG (pI (pI r64 112 ((99 : Int32) + (gI r64 112 3)).toNatClampNeg x1) 112 3 ((gI (pI r64 112 ((99 : Int32) + (gI r64 112 3)).toNatClampNeg x1) 112 3) + (1 : Int32)))) (o := 112) C hw rfl (aIn_v (by decide)) (show (3 : Int32).toNatClampNeg = 3 by decide) dX7_show_97 ?_
          cases h_e hM
          exact a_iret C hw dX7_show_98
        · replace hM := h_f hc hM
          refine lv_iconst (v := (0 : Int32)) hx hb dX7_show_61 (by decide) ?_
          cases h_e hM
          exact a_iret C hw dX7_show_62
      · replace hM := h_t hc hM
        refine lv_aload_n hx hb dX7_show_37 rfl (lv_at hl 0 rfl) ?_
        refine a_getp (q := 112) (σ := aG r30.2) (o := 109) (T := TX7) (N := 20) C wU_X7 hw rfl (by decide) rfl 9 (by decide) rfl wF_X7_20 (aG_P rfl rfl) dX7_show_38 ?_
        refine lv_iconst (v := (3 : Int32)) hx hb dX7_show_41 (by decide) ?_
        refine a_iald (σ := aG r30.2) (o := 112) C hw rfl (aIn_v (by decide)) (show (3 : Int32).toNatClampNeg = 3 by decide) dX7_show_42 ?_
        refine lv_bipush (v := (8 : Int32)) hx hb dX7_show_43 (by decide) ?_
        refine lv_icmp_ne (tgt := 52) hx hb dX7_show_45 (by decide) (fun hc => ?_) (fun hc => ?_)
        · replace hM := h_f hc hM
          refine lv_iconst (v := (0 : Int32)) hx hb dX7_show_52 (by decide) ?_
          refine lv_iconst (v := (2 : Int32)) hx hb dX7_show_53 (by decide) ?_
          refine lv_iconst (v := (2 : Int32)) hx hb dX7_show_54 (by decide) ?_
          obtain ⟨r55, hr55, hM⟩ := h_b hM
          refine a_callV (σ' := aG r55.2) (v := (some (.int r55.1))) (As := fun ad => [.int (0 : Int32), .int (2 : Int32), .int (2 : Int32)]) (rest := []) (o := 109) C hw (c_X7_bad l hr55) k_X7_bad wM_X7_164 ⟨⟨rfl, rfl⟩, ⟨Nat.le_of_ble_eq_true rfl, Nat.le_of_ble_eq_true rfl⟩⟩ rfl (by decide) rfl rfl rfl hl rfl (Nat.le_of_ble_eq_true rfl) dX7_show_55 ⟨Nat.zero_le _, Nat.zero_le _⟩ (fun H locs hw => ?_)
          refine lv_if_eq (tgt := 63) hx hb dX7_show_58 (by decide) (fun hc => ?_) (fun hc => ?_)
          · replace hM := h_t hc hM
            refine lv_aload_n hx hb dX7_show_63 rfl (lv_at hl 0 rfl) ?_
            obtain ⟨r64, hr64, hM⟩ := h_b hM
            refine a_callV (σ' := aG r64) (v := none) (As := fun ad => []) (rest := []) (o := 109) C hw (c_X7_remembers l hr64) k_X7_remembers wM_X7_173 ⟨⟨rfl, rfl⟩, ⟨Nat.le_of_ble_eq_true rfl, Nat.le_of_ble_eq_true rfl⟩⟩ rfl (by decide) rfl rfl rfl hl rfl (Nat.le_of_ble_eq_true rfl) dX7_show_64 ⟨Nat.zero_le _, Nat.zero_le _⟩ (fun H locs hw => ?_)
            refine lv_aload_n hx hb dX7_show_67 rfl (lv_at hl 0 rfl) ?_
            refine a_getp (q := 112) (σ := aG r64) (o := 109) (T := TX7) (N := 20) C wU_X7 hw rfl (by decide) rfl 9 (by decide) rfl wF_X7_20 (aG_P rfl rfl) dX7_show_68 ?_
            refine lv_bipush (v := (99 : Int32)) hx hb dX7_show_71 (by decide) ?_
            refine lv_aload_n hx hb dX7_show_73 rfl (lv_at hl 0 rfl) ?_
            refine a_getp (q := 112) (σ := aG r64) (o := 109) (T := TX7) (N := 20) C wU_X7 hw rfl (by decide) rfl 9 (by decide) rfl wF_X7_20 (aG_P rfl rfl) dX7_show_74 ?_
            refine lv_iconst (v := (3 : Int32)) hx hb dX7_show_77 (by decide) ?_
            refine a_iald (σ := aG r64) (o := 112) C hw rfl (aIn_v (by decide)) (show (3 : Int32).toNatClampNeg = 3 by decide) dX7_show_78 ?_
            refine lv_iadd hx hb dX7_show_79 ?_
            refine lv_iload_n hx hb dX7_show_80 rfl (lv_at hl 1 rfl) ?_
            obtain ⟨hi, hM⟩ := h_i hM
            refine a_iast (σ := aG r64) (o := 112) C hw rfl hi rfl dX7_show_81 (fun H locs hw => ?_)
            have hw : aW D dA ad adV (aG (pI r64 112 ((99 : Int32) + (gI r64 112 3)).toNatClampNeg x1)) A s H locs := hw
            refine lv_aload_n hx hb dX7_show_82 rfl (lv_at hl 0 rfl) ?_
            refine a_getp (q := 112) (σ := aG (pI r64 112 ((99 : Int32) + (gI r64 112 3)).toNatClampNeg x1)) (o := 109) (T := TX7) (N := 20) C wU_X7 hw rfl (by decide) rfl 9 (by decide) rfl wF_X7_20 (aG_P rfl rfl) dX7_show_83 ?_
            refine lv_iconst (v := (3 : Int32)) hx hb dX7_show_86 (by decide) ?_
            refine lv_dup2_11 hx hb dX7_show_87 rfl rfl ?_
            refine a_iald (σ := aG (pI r64 112 ((99 : Int32) + (gI r64 112 3)).toNatClampNeg x1)) (o := 112) C hw rfl (aIn_v (by decide)) (show (3 : Int32).toNatClampNeg = 3 by decide) dX7_show_88 ?_
            refine lv_iconst (v := (1 : Int32)) hx hb dX7_show_89 (by decide) ?_
            refine lv_iadd hx hb dX7_show_90 ?_
            refine a_iast (σ := aG (pI r64 112 ((99 : Int32) + (gI r64 112 3)).toNatClampNeg x1)) (o := 112) C hw rfl (aIn_v (by decide)) (show (3 : Int32).toNatClampNeg = 3 by decide) dX7_show_91 (fun H locs hw => ?_)
            have hw : aW D dA ad adV (aG (pI (pI r64 112 ((99 : Int32) + (gI r64 112 3)).toNatClampNeg x1) 112 3 ((gI (pI r64 112 ((99 : Int32) + (gI r64 112 3)).toNatClampNeg x1) 112 3) + (1 : Int32)))) A s H locs := hw
            refine lv_aload_n hx hb dX7_show_92 rfl (lv_at hl 0 rfl) ?_
            refine a_getp (q := 112) (σ := aG (pI (pI r64 112 ((99 : Int32) + (gI r64 112 3)).toNatClampNeg x1) 112 3 ((gI (pI r64 112 ((99 : Int32) + (gI r64 112 3)).toNatClampNeg x1) 112 3) + (1 : Int32)))) (o := 109) (T := TX7) (N := 20) C wU_X7 hw rfl (by decide) rfl 9 (by decide) rfl wF_X7_20 (aG_P rfl rfl) dX7_show_93 ?_
            refine lv_iconst (v := (3 : Int32)) hx hb dX7_show_96 (by decide) ?_
            refine a_iald (σ := aG (pI (pI r64 112 ((99 : Int32) + (gI r64 112 3)).toNatClampNeg x1) 112 3 ((gI (pI r64 112 ((99 : Int32) + (gI r64 112 3)).toNatClampNeg x1) 112 3) + (1 : Int32)))) (o := 112) C hw rfl (aIn_v (by decide)) (show (3 : Int32).toNatClampNeg = 3 by decide) dX7_show_97 ?_
            cases h_e hM
            exact a_iret C hw dX7_show_98
          · replace hM := h_f hc hM
            refine lv_iconst (v := (0 : Int32)) hx hb dX7_show_61 (by decide) ?_
            cases h_e hM
            exact a_iret C hw dX7_show_62
        · replace hM := h_t hc hM
          refine lv_iconst (v := (1 : Int32)) hx hb dX7_show_48 (by decide) ?_
          refine lv_goto (tgt := 53) hx hb dX7_show_49 (by decide) ?_
          refine lv_iconst (v := (2 : Int32)) hx hb dX7_show_53 (by decide) ?_
          refine lv_iconst (v := (2 : Int32)) hx hb dX7_show_54 (by decide) ?_
          obtain ⟨r55, hr55, hM⟩ := h_b hM
          refine a_callV (σ' := aG r55.2) (v := (some (.int r55.1))) (As := fun ad => [.int (1 : Int32), .int (2 : Int32), .int (2 : Int32)]) (rest := []) (o := 109) C hw (c_X7_bad l hr55) k_X7_bad wM_X7_164 ⟨⟨rfl, rfl⟩, ⟨Nat.le_of_ble_eq_true rfl, Nat.le_of_ble_eq_true rfl⟩⟩ rfl (by decide) rfl rfl rfl hl rfl (Nat.le_of_ble_eq_true rfl) dX7_show_55 ⟨Nat.zero_le _, Nat.zero_le _⟩ (fun H locs hw => ?_)
          refine lv_if_eq (tgt := 63) hx hb dX7_show_58 (by decide) (fun hc => ?_) (fun hc => ?_)
          · replace hM := h_t hc hM
            refine lv_aload_n hx hb dX7_show_63 rfl (lv_at hl 0 rfl) ?_
            obtain ⟨r64, hr64, hM⟩ := h_b hM
            refine a_callV (σ' := aG r64) (v := none) (As := fun ad => []) (rest := []) (o := 109) C hw (c_X7_remembers l hr64) k_X7_remembers wM_X7_173 ⟨⟨rfl, rfl⟩, ⟨Nat.le_of_ble_eq_true rfl, Nat.le_of_ble_eq_true rfl⟩⟩ rfl (by decide) rfl rfl rfl hl rfl (Nat.le_of_ble_eq_true rfl) dX7_show_64 ⟨Nat.zero_le _, Nat.zero_le _⟩ (fun H locs hw => ?_)
            refine lv_aload_n hx hb dX7_show_67 rfl (lv_at hl 0 rfl) ?_
            refine a_getp (q := 112) (σ := aG r64) (o := 109) (T := TX7) (N := 20) C wU_X7 hw rfl (by decide) rfl 9 (by decide) rfl wF_X7_20 (aG_P rfl rfl) dX7_show_68 ?_
            refine lv_bipush (v := (99 : Int32)) hx hb dX7_show_71 (by decide) ?_
            refine lv_aload_n hx hb dX7_show_73 rfl (lv_at hl 0 rfl) ?_
            refine a_getp (q := 112) (σ := aG r64) (o := 109) (T := TX7) (N := 20) C wU_X7 hw rfl (by decide) rfl 9 (by decide) rfl wF_X7_20 (aG_P rfl rfl) dX7_show_74 ?_
            refine lv_iconst (v := (3 : Int32)) hx hb dX7_show_77 (by decide) ?_
            refine a_iald (σ := aG r64) (o := 112) C hw rfl (aIn_v (by decide)) (show (3 : Int32).toNatClampNeg = 3 by decide) dX7_show_78 ?_
            refine lv_iadd hx hb dX7_show_79 ?_
            refine lv_iload_n hx hb dX7_show_80 rfl (lv_at hl 1 rfl) ?_
            obtain ⟨hi, hM⟩ := h_i hM
            refine a_iast (σ := aG r64) (o := 112) C hw rfl hi rfl dX7_show_81 (fun H locs hw => ?_)
            have hw : aW D dA ad adV (aG (pI r64 112 ((99 : Int32) + (gI r64 112 3)).toNatClampNeg x1)) A s H locs := hw
            refine lv_aload_n hx hb dX7_show_82 rfl (lv_at hl 0 rfl) ?_
            refine a_getp (q := 112) (σ := aG (pI r64 112 ((99 : Int32) + (gI r64 112 3)).toNatClampNeg x1)) (o := 109) (T := TX7) (N := 20) C wU_X7 hw rfl (by decide) rfl 9 (by decide) rfl wF_X7_20 (aG_P rfl rfl) dX7_show_83 ?_
            refine lv_iconst (v := (3 : Int32)) hx hb dX7_show_86 (by decide) ?_
            refine lv_dup2_11 hx hb dX7_show_87 rfl rfl ?_
            refine a_iald (σ := aG (pI r64 112 ((99 : Int32) + (gI r64 112 3)).toNatClampNeg x1)) (o := 112) C hw rfl (aIn_v (by decide)) (show (3 : Int32).toNatClampNeg = 3 by decide) dX7_show_88 ?_
            refine lv_iconst (v := (1 : Int32)) hx hb dX7_show_89 (by decide) ?_
            refine lv_iadd hx hb dX7_show_90 ?_
            refine a_iast (σ := aG (pI r64 112 ((99 : Int32) + (gI r64 112 3)).toNatClampNeg x1)) (o := 112) C hw rfl (aIn_v (by decide)) (show (3 : Int32).toNatClampNeg = 3 by decide) dX7_show_91 (fun H locs hw => ?_)
            have hw : aW D dA ad adV (aG (pI (pI r64 112 ((99 : Int32) + (gI r64 112 3)).toNatClampNeg x1) 112 3 ((gI (pI r64 112 ((99 : Int32) + (gI r64 112 3)).toNatClampNeg x1) 112 3) + (1 : Int32)))) A s H locs := hw
            refine lv_aload_n hx hb dX7_show_92 rfl (lv_at hl 0 rfl) ?_
            refine a_getp (q := 112) (σ := aG (pI (pI r64 112 ((99 : Int32) + (gI r64 112 3)).toNatClampNeg x1) 112 3 ((gI (pI r64 112 ((99 : Int32) + (gI r64 112 3)).toNatClampNeg x1) 112 3) + (1 : Int32)))) (o := 109) (T := TX7) (N := 20) C wU_X7 hw rfl (by decide) rfl 9 (by decide) rfl wF_X7_20 (aG_P rfl rfl) dX7_show_93 ?_
            refine lv_iconst (v := (3 : Int32)) hx hb dX7_show_96 (by decide) ?_
            refine a_iald (σ := aG (pI (pI r64 112 ((99 : Int32) + (gI r64 112 3)).toNatClampNeg x1) 112 3 ((gI (pI r64 112 ((99 : Int32) + (gI r64 112 3)).toNatClampNeg x1) 112 3) + (1 : Int32)))) (o := 112) C hw rfl (aIn_v (by decide)) (show (3 : Int32).toNatClampNeg = 3 by decide) dX7_show_97 ?_
            cases h_e hM
            exact a_iret C hw dX7_show_98
          · replace hM := h_f hc hM
            refine lv_iconst (v := (0 : Int32)) hx hb dX7_show_61 (by decide) ?_
            cases h_e hM
            exact a_iret C hw dX7_show_62
  · replace hM := h_t hc hM
    refine lv_iconst (v := (1 : Int32)) hx hb dX7_show_14 (by decide) ?_
    refine lv_goto (tgt := 19) hx hb dX7_show_15 (by decide) ?_
    refine lv_iconst (v := (1 : Int32)) hx hb dX7_show_19 (by decide) ?_
    refine lv_iconst (v := (0 : Int32)) hx hb dX7_show_20 (by decide) ?_
    obtain ⟨r21, hr21, hM⟩ := h_b hM
    refine a_callV (σ' := aG r21.2) (v := (some (.int r21.1))) (As := fun ad => [.int (1 : Int32), .int (1 : Int32), .int (0 : Int32)]) (rest := []) (o := 109) C hw (c_X7_bad l hr21) k_X7_bad wM_X7_164 ⟨⟨rfl, rfl⟩, ⟨Nat.le_of_ble_eq_true rfl, Nat.le_of_ble_eq_true rfl⟩⟩ rfl (by decide) rfl rfl rfl hl rfl (Nat.le_of_ble_eq_true rfl) dX7_show_21 ⟨Nat.zero_le _, Nat.zero_le _⟩ (fun H locs hw => ?_)
    refine lv_if_ne (tgt := 61) hx hb dX7_show_24 (by decide) (fun hc => ?_) (fun hc => ?_)
    · replace hM := h_f hc hM
      refine lv_iconst (v := (0 : Int32)) hx hb dX7_show_61 (by decide) ?_
      cases h_e hM
      exact a_iret C hw dX7_show_62
    · replace hM := h_t hc hM
      refine lv_aload_n hx hb dX7_show_27 rfl (lv_at hl 0 rfl) ?_
      refine lv_aload_n hx hb dX7_show_28 rfl (lv_at hl 0 rfl) ?_
      refine lv_iload_n hx hb dX7_show_29 rfl (lv_at hl 1 rfl) ?_
      obtain ⟨r30, hr30, hM⟩ := h_b hM
      refine a_callV (σ' := aG r30.2) (v := (some (.int r30.1))) (As := fun ad => [.int x1]) (rest := [.ref (ad 109)]) (o := 109) C hw (c_X7_placeOf l hr30) k_X7_placeOf wM_X7_210 ⟨⟨rfl, rfl⟩, ⟨Nat.le_of_ble_eq_true rfl, Nat.le_of_ble_eq_true rfl⟩⟩ rfl (by decide) rfl rfl rfl hl rfl (Nat.le_of_ble_eq_true rfl) dX7_show_30 ⟨Nat.zero_le _, Nat.zero_le _⟩ (fun H locs hw => ?_)
      refine lv_iconst (v := (-1 : Int32)) hx hb dX7_show_33 (by decide) ?_
      refine lv_icmp_ne (tgt := 48) hx hb dX7_show_34 (by decide) (fun hc => ?_) (fun hc => ?_)
      · replace hM := h_f hc hM
        refine lv_iconst (v := (1 : Int32)) hx hb dX7_show_48 (by decide) ?_
        refine lv_goto (tgt := 53) hx hb dX7_show_49 (by decide) ?_
        refine lv_iconst (v := (2 : Int32)) hx hb dX7_show_53 (by decide) ?_
        refine lv_iconst (v := (2 : Int32)) hx hb dX7_show_54 (by decide) ?_
        obtain ⟨r55, hr55, hM⟩ := h_b hM
        refine a_callV (σ' := aG r55.2) (v := (some (.int r55.1))) (As := fun ad => [.int (1 : Int32), .int (2 : Int32), .int (2 : Int32)]) (rest := []) (o := 109) C hw (c_X7_bad l hr55) k_X7_bad wM_X7_164 ⟨⟨rfl, rfl⟩, ⟨Nat.le_of_ble_eq_true rfl, Nat.le_of_ble_eq_true rfl⟩⟩ rfl (by decide) rfl rfl rfl hl rfl (Nat.le_of_ble_eq_true rfl) dX7_show_55 ⟨Nat.zero_le _, Nat.zero_le _⟩ (fun H locs hw => ?_)
        refine lv_if_eq (tgt := 63) hx hb dX7_show_58 (by decide) (fun hc => ?_) (fun hc => ?_)
        · replace hM := h_t hc hM
          refine lv_aload_n hx hb dX7_show_63 rfl (lv_at hl 0 rfl) ?_
          obtain ⟨r64, hr64, hM⟩ := h_b hM
          refine a_callV (σ' := aG r64) (v := none) (As := fun ad => []) (rest := []) (o := 109) C hw (c_X7_remembers l hr64) k_X7_remembers wM_X7_173 ⟨⟨rfl, rfl⟩, ⟨Nat.le_of_ble_eq_true rfl, Nat.le_of_ble_eq_true rfl⟩⟩ rfl (by decide) rfl rfl rfl hl rfl (Nat.le_of_ble_eq_true rfl) dX7_show_64 ⟨Nat.zero_le _, Nat.zero_le _⟩ (fun H locs hw => ?_)
          refine lv_aload_n hx hb dX7_show_67 rfl (lv_at hl 0 rfl) ?_
          refine a_getp (q := 112) (σ := aG r64) (o := 109) (T := TX7) (N := 20) C wU_X7 hw rfl (by decide) rfl 9 (by decide) rfl wF_X7_20 (aG_P rfl rfl) dX7_show_68 ?_
          refine lv_bipush (v := (99 : Int32)) hx hb dX7_show_71 (by decide) ?_
          refine lv_aload_n hx hb dX7_show_73 rfl (lv_at hl 0 rfl) ?_
          refine a_getp (q := 112) (σ := aG r64) (o := 109) (T := TX7) (N := 20) C wU_X7 hw rfl (by decide) rfl 9 (by decide) rfl wF_X7_20 (aG_P rfl rfl) dX7_show_74 ?_
          refine lv_iconst (v := (3 : Int32)) hx hb dX7_show_77 (by decide) ?_
          refine a_iald (σ := aG r64) (o := 112) C hw rfl (aIn_v (by decide)) (show (3 : Int32).toNatClampNeg = 3 by decide) dX7_show_78 ?_
          refine lv_iadd hx hb dX7_show_79 ?_
          refine lv_iload_n hx hb dX7_show_80 rfl (lv_at hl 1 rfl) ?_
          obtain ⟨hi, hM⟩ := h_i hM
          refine a_iast (σ := aG r64) (o := 112) C hw rfl hi rfl dX7_show_81 (fun H locs hw => ?_)
          have hw : aW D dA ad adV (aG (pI r64 112 ((99 : Int32) + (gI r64 112 3)).toNatClampNeg x1)) A s H locs := hw
          refine lv_aload_n hx hb dX7_show_82 rfl (lv_at hl 0 rfl) ?_
          refine a_getp (q := 112) (σ := aG (pI r64 112 ((99 : Int32) + (gI r64 112 3)).toNatClampNeg x1)) (o := 109) (T := TX7) (N := 20) C wU_X7 hw rfl (by decide) rfl 9 (by decide) rfl wF_X7_20 (aG_P rfl rfl) dX7_show_83 ?_
          refine lv_iconst (v := (3 : Int32)) hx hb dX7_show_86 (by decide) ?_
          refine lv_dup2_11 hx hb dX7_show_87 rfl rfl ?_
          refine a_iald (σ := aG (pI r64 112 ((99 : Int32) + (gI r64 112 3)).toNatClampNeg x1)) (o := 112) C hw rfl (aIn_v (by decide)) (show (3 : Int32).toNatClampNeg = 3 by decide) dX7_show_88 ?_
          refine lv_iconst (v := (1 : Int32)) hx hb dX7_show_89 (by decide) ?_
          refine lv_iadd hx hb dX7_show_90 ?_
          refine a_iast (σ := aG (pI r64 112 ((99 : Int32) + (gI r64 112 3)).toNatClampNeg x1)) (o := 112) C hw rfl (aIn_v (by decide)) (show (3 : Int32).toNatClampNeg = 3 by decide) dX7_show_91 (fun H locs hw => ?_)
          have hw : aW D dA ad adV (aG (pI (pI r64 112 ((99 : Int32) + (gI r64 112 3)).toNatClampNeg x1) 112 3 ((gI (pI r64 112 ((99 : Int32) + (gI r64 112 3)).toNatClampNeg x1) 112 3) + (1 : Int32)))) A s H locs := hw
          refine lv_aload_n hx hb dX7_show_92 rfl (lv_at hl 0 rfl) ?_
          refine a_getp (q := 112) (σ := aG (pI (pI r64 112 ((99 : Int32) + (gI r64 112 3)).toNatClampNeg x1) 112 3 ((gI (pI r64 112 ((99 : Int32) + (gI r64 112 3)).toNatClampNeg x1) 112 3) + (1 : Int32)))) (o := 109) (T := TX7) (N := 20) C wU_X7 hw rfl (by decide) rfl 9 (by decide) rfl wF_X7_20 (aG_P rfl rfl) dX7_show_93 ?_
          refine lv_iconst (v := (3 : Int32)) hx hb dX7_show_96 (by decide) ?_
          refine a_iald (σ := aG (pI (pI r64 112 ((99 : Int32) + (gI r64 112 3)).toNatClampNeg x1) 112 3 ((gI (pI r64 112 ((99 : Int32) + (gI r64 112 3)).toNatClampNeg x1) 112 3) + (1 : Int32)))) (o := 112) C hw rfl (aIn_v (by decide)) (show (3 : Int32).toNatClampNeg = 3 by decide) dX7_show_97 ?_
          cases h_e hM
          exact a_iret C hw dX7_show_98
        · replace hM := h_f hc hM
          refine lv_iconst (v := (0 : Int32)) hx hb dX7_show_61 (by decide) ?_
          cases h_e hM
          exact a_iret C hw dX7_show_62
      · replace hM := h_t hc hM
        refine lv_aload_n hx hb dX7_show_37 rfl (lv_at hl 0 rfl) ?_
        refine a_getp (q := 112) (σ := aG r30.2) (o := 109) (T := TX7) (N := 20) C wU_X7 hw rfl (by decide) rfl 9 (by decide) rfl wF_X7_20 (aG_P rfl rfl) dX7_show_38 ?_
        refine lv_iconst (v := (3 : Int32)) hx hb dX7_show_41 (by decide) ?_
        refine a_iald (σ := aG r30.2) (o := 112) C hw rfl (aIn_v (by decide)) (show (3 : Int32).toNatClampNeg = 3 by decide) dX7_show_42 ?_
        refine lv_bipush (v := (8 : Int32)) hx hb dX7_show_43 (by decide) ?_
        refine lv_icmp_ne (tgt := 52) hx hb dX7_show_45 (by decide) (fun hc => ?_) (fun hc => ?_)
        · replace hM := h_f hc hM
          refine lv_iconst (v := (0 : Int32)) hx hb dX7_show_52 (by decide) ?_
          refine lv_iconst (v := (2 : Int32)) hx hb dX7_show_53 (by decide) ?_
          refine lv_iconst (v := (2 : Int32)) hx hb dX7_show_54 (by decide) ?_
          obtain ⟨r55, hr55, hM⟩ := h_b hM
          refine a_callV (σ' := aG r55.2) (v := (some (.int r55.1))) (As := fun ad => [.int (0 : Int32), .int (2 : Int32), .int (2 : Int32)]) (rest := []) (o := 109) C hw (c_X7_bad l hr55) k_X7_bad wM_X7_164 ⟨⟨rfl, rfl⟩, ⟨Nat.le_of_ble_eq_true rfl, Nat.le_of_ble_eq_true rfl⟩⟩ rfl (by decide) rfl rfl rfl hl rfl (Nat.le_of_ble_eq_true rfl) dX7_show_55 ⟨Nat.zero_le _, Nat.zero_le _⟩ (fun H locs hw => ?_)
          refine lv_if_eq (tgt := 63) hx hb dX7_show_58 (by decide) (fun hc => ?_) (fun hc => ?_)
          · replace hM := h_t hc hM
            refine lv_aload_n hx hb dX7_show_63 rfl (lv_at hl 0 rfl) ?_
            obtain ⟨r64, hr64, hM⟩ := h_b hM
            refine a_callV (σ' := aG r64) (v := none) (As := fun ad => []) (rest := []) (o := 109) C hw (c_X7_remembers l hr64) k_X7_remembers wM_X7_173 ⟨⟨rfl, rfl⟩, ⟨Nat.le_of_ble_eq_true rfl, Nat.le_of_ble_eq_true rfl⟩⟩ rfl (by decide) rfl rfl rfl hl rfl (Nat.le_of_ble_eq_true rfl) dX7_show_64 ⟨Nat.zero_le _, Nat.zero_le _⟩ (fun H locs hw => ?_)
            refine lv_aload_n hx hb dX7_show_67 rfl (lv_at hl 0 rfl) ?_
            refine a_getp (q := 112) (σ := aG r64) (o := 109) (T := TX7) (N := 20) C wU_X7 hw rfl (by decide) rfl 9 (by decide) rfl wF_X7_20 (aG_P rfl rfl) dX7_show_68 ?_
            refine lv_bipush (v := (99 : Int32)) hx hb dX7_show_71 (by decide) ?_
            refine lv_aload_n hx hb dX7_show_73 rfl (lv_at hl 0 rfl) ?_
            refine a_getp (q := 112) (σ := aG r64) (o := 109) (T := TX7) (N := 20) C wU_X7 hw rfl (by decide) rfl 9 (by decide) rfl wF_X7_20 (aG_P rfl rfl) dX7_show_74 ?_
            refine lv_iconst (v := (3 : Int32)) hx hb dX7_show_77 (by decide) ?_
            refine a_iald (σ := aG r64) (o := 112) C hw rfl (aIn_v (by decide)) (show (3 : Int32).toNatClampNeg = 3 by decide) dX7_show_78 ?_
            refine lv_iadd hx hb dX7_show_79 ?_
            refine lv_iload_n hx hb dX7_show_80 rfl (lv_at hl 1 rfl) ?_
            obtain ⟨hi, hM⟩ := h_i hM
            refine a_iast (σ := aG r64) (o := 112) C hw rfl hi rfl dX7_show_81 (fun H locs hw => ?_)
            have hw : aW D dA ad adV (aG (pI r64 112 ((99 : Int32) + (gI r64 112 3)).toNatClampNeg x1)) A s H locs := hw
            refine lv_aload_n hx hb dX7_show_82 rfl (lv_at hl 0 rfl) ?_
            refine a_getp (q := 112) (σ := aG (pI r64 112 ((99 : Int32) + (gI r64 112 3)).toNatClampNeg x1)) (o := 109) (T := TX7) (N := 20) C wU_X7 hw rfl (by decide) rfl 9 (by decide) rfl wF_X7_20 (aG_P rfl rfl) dX7_show_83 ?_
            refine lv_iconst (v := (3 : Int32)) hx hb dX7_show_86 (by decide) ?_
            refine lv_dup2_11 hx hb dX7_show_87 rfl rfl ?_
            refine a_iald (σ := aG (pI r64 112 ((99 : Int32) + (gI r64 112 3)).toNatClampNeg x1)) (o := 112) C hw rfl (aIn_v (by decide)) (show (3 : Int32).toNatClampNeg = 3 by decide) dX7_show_88 ?_
            refine lv_iconst (v := (1 : Int32)) hx hb dX7_show_89 (by decide) ?_
            refine lv_iadd hx hb dX7_show_90 ?_
            refine a_iast (σ := aG (pI r64 112 ((99 : Int32) + (gI r64 112 3)).toNatClampNeg x1)) (o := 112) C hw rfl (aIn_v (by decide)) (show (3 : Int32).toNatClampNeg = 3 by decide) dX7_show_91 (fun H locs hw => ?_)
            have hw : aW D dA ad adV (aG (pI (pI r64 112 ((99 : Int32) + (gI r64 112 3)).toNatClampNeg x1) 112 3 ((gI (pI r64 112 ((99 : Int32) + (gI r64 112 3)).toNatClampNeg x1) 112 3) + (1 : Int32)))) A s H locs := hw
            refine lv_aload_n hx hb dX7_show_92 rfl (lv_at hl 0 rfl) ?_
            refine a_getp (q := 112) (σ := aG (pI (pI r64 112 ((99 : Int32) + (gI r64 112 3)).toNatClampNeg x1) 112 3 ((gI (pI r64 112 ((99 : Int32) + (gI r64 112 3)).toNatClampNeg x1) 112 3) + (1 : Int32)))) (o := 109) (T := TX7) (N := 20) C wU_X7 hw rfl (by decide) rfl 9 (by decide) rfl wF_X7_20 (aG_P rfl rfl) dX7_show_93 ?_
            refine lv_iconst (v := (3 : Int32)) hx hb dX7_show_96 (by decide) ?_
            refine a_iald (σ := aG (pI (pI r64 112 ((99 : Int32) + (gI r64 112 3)).toNatClampNeg x1) 112 3 ((gI (pI r64 112 ((99 : Int32) + (gI r64 112 3)).toNatClampNeg x1) 112 3) + (1 : Int32)))) (o := 112) C hw rfl (aIn_v (by decide)) (show (3 : Int32).toNatClampNeg = 3 by decide) dX7_show_97 ?_
            cases h_e hM
            exact a_iret C hw dX7_show_98
          · replace hM := h_f hc hM
            refine lv_iconst (v := (0 : Int32)) hx hb dX7_show_61 (by decide) ?_
            cases h_e hM
            exact a_iret C hw dX7_show_62
        · replace hM := h_t hc hM
          refine lv_iconst (v := (1 : Int32)) hx hb dX7_show_48 (by decide) ?_
          refine lv_goto (tgt := 53) hx hb dX7_show_49 (by decide) ?_
          refine lv_iconst (v := (2 : Int32)) hx hb dX7_show_53 (by decide) ?_
          refine lv_iconst (v := (2 : Int32)) hx hb dX7_show_54 (by decide) ?_
          obtain ⟨r55, hr55, hM⟩ := h_b hM
          refine a_callV (σ' := aG r55.2) (v := (some (.int r55.1))) (As := fun ad => [.int (1 : Int32), .int (2 : Int32), .int (2 : Int32)]) (rest := []) (o := 109) C hw (c_X7_bad l hr55) k_X7_bad wM_X7_164 ⟨⟨rfl, rfl⟩, ⟨Nat.le_of_ble_eq_true rfl, Nat.le_of_ble_eq_true rfl⟩⟩ rfl (by decide) rfl rfl rfl hl rfl (Nat.le_of_ble_eq_true rfl) dX7_show_55 ⟨Nat.zero_le _, Nat.zero_le _⟩ (fun H locs hw => ?_)
          refine lv_if_eq (tgt := 63) hx hb dX7_show_58 (by decide) (fun hc => ?_) (fun hc => ?_)
          · replace hM := h_t hc hM
            refine lv_aload_n hx hb dX7_show_63 rfl (lv_at hl 0 rfl) ?_
            obtain ⟨r64, hr64, hM⟩ := h_b hM
            refine a_callV (σ' := aG r64) (v := none) (As := fun ad => []) (rest := []) (o := 109) C hw (c_X7_remembers l hr64) k_X7_remembers wM_X7_173 ⟨⟨rfl, rfl⟩, ⟨Nat.le_of_ble_eq_true rfl, Nat.le_of_ble_eq_true rfl⟩⟩ rfl (by decide) rfl rfl rfl hl rfl (Nat.le_of_ble_eq_true rfl) dX7_show_64 ⟨Nat.zero_le _, Nat.zero_le _⟩ (fun H locs hw => ?_)
            refine lv_aload_n hx hb dX7_show_67 rfl (lv_at hl 0 rfl) ?_
            refine a_getp (q := 112) (σ := aG r64) (o := 109) (T := TX7) (N := 20) C wU_X7 hw rfl (by decide) rfl 9 (by decide) rfl wF_X7_20 (aG_P rfl rfl) dX7_show_68 ?_
            refine lv_bipush (v := (99 : Int32)) hx hb dX7_show_71 (by decide) ?_
            refine lv_aload_n hx hb dX7_show_73 rfl (lv_at hl 0 rfl) ?_
            refine a_getp (q := 112) (σ := aG r64) (o := 109) (T := TX7) (N := 20) C wU_X7 hw rfl (by decide) rfl 9 (by decide) rfl wF_X7_20 (aG_P rfl rfl) dX7_show_74 ?_
            refine lv_iconst (v := (3 : Int32)) hx hb dX7_show_77 (by decide) ?_
            refine a_iald (σ := aG r64) (o := 112) C hw rfl (aIn_v (by decide)) (show (3 : Int32).toNatClampNeg = 3 by decide) dX7_show_78 ?_
            refine lv_iadd hx hb dX7_show_79 ?_
            refine lv_iload_n hx hb dX7_show_80 rfl (lv_at hl 1 rfl) ?_
            obtain ⟨hi, hM⟩ := h_i hM
            refine a_iast (σ := aG r64) (o := 112) C hw rfl hi rfl dX7_show_81 (fun H locs hw => ?_)
            have hw : aW D dA ad adV (aG (pI r64 112 ((99 : Int32) + (gI r64 112 3)).toNatClampNeg x1)) A s H locs := hw
            refine lv_aload_n hx hb dX7_show_82 rfl (lv_at hl 0 rfl) ?_
            refine a_getp (q := 112) (σ := aG (pI r64 112 ((99 : Int32) + (gI r64 112 3)).toNatClampNeg x1)) (o := 109) (T := TX7) (N := 20) C wU_X7 hw rfl (by decide) rfl 9 (by decide) rfl wF_X7_20 (aG_P rfl rfl) dX7_show_83 ?_
            refine lv_iconst (v := (3 : Int32)) hx hb dX7_show_86 (by decide) ?_
            refine lv_dup2_11 hx hb dX7_show_87 rfl rfl ?_
            refine a_iald (σ := aG (pI r64 112 ((99 : Int32) + (gI r64 112 3)).toNatClampNeg x1)) (o := 112) C hw rfl (aIn_v (by decide)) (show (3 : Int32).toNatClampNeg = 3 by decide) dX7_show_88 ?_
            refine lv_iconst (v := (1 : Int32)) hx hb dX7_show_89 (by decide) ?_
            refine lv_iadd hx hb dX7_show_90 ?_
            refine a_iast (σ := aG (pI r64 112 ((99 : Int32) + (gI r64 112 3)).toNatClampNeg x1)) (o := 112) C hw rfl (aIn_v (by decide)) (show (3 : Int32).toNatClampNeg = 3 by decide) dX7_show_91 (fun H locs hw => ?_)
            have hw : aW D dA ad adV (aG (pI (pI r64 112 ((99 : Int32) + (gI r64 112 3)).toNatClampNeg x1) 112 3 ((gI (pI r64 112 ((99 : Int32) + (gI r64 112 3)).toNatClampNeg x1) 112 3) + (1 : Int32)))) A s H locs := hw
            refine lv_aload_n hx hb dX7_show_92 rfl (lv_at hl 0 rfl) ?_
            refine a_getp (q := 112) (σ := aG (pI (pI r64 112 ((99 : Int32) + (gI r64 112 3)).toNatClampNeg x1) 112 3 ((gI (pI r64 112 ((99 : Int32) + (gI r64 112 3)).toNatClampNeg x1) 112 3) + (1 : Int32)))) (o := 109) (T := TX7) (N := 20) C wU_X7 hw rfl (by decide) rfl 9 (by decide) rfl wF_X7_20 (aG_P rfl rfl) dX7_show_93 ?_
            refine lv_iconst (v := (3 : Int32)) hx hb dX7_show_96 (by decide) ?_
            refine a_iald (σ := aG (pI (pI r64 112 ((99 : Int32) + (gI r64 112 3)).toNatClampNeg x1) 112 3 ((gI (pI r64 112 ((99 : Int32) + (gI r64 112 3)).toNatClampNeg x1) 112 3) + (1 : Int32)))) (o := 112) C hw rfl (aIn_v (by decide)) (show (3 : Int32).toNatClampNeg = 3 by decide) dX7_show_97 ?_
            cases h_e hM
            exact a_iret C hw dX7_show_98
          · replace hM := h_f hc hM
            refine lv_iconst (v := (0 : Int32)) hx hb dX7_show_61 (by decide) ?_
            cases h_e hM
            exact a_iret C hw dX7_show_62
def rm_X7_isPlace : Room := { frames := 1, cells := 0, slots := 0, locals := 22 }
theorem k_X7_isPlace : aCal RX7 yX7_isPlace cX7_isPlace 2 (some .boolean) 1 := ⟨wI_yX7_isPlace, wE_yX7_isPlace, wZ_X7, wC_yX7_isPlace, by decide +kernel⟩
set_option maxHeartbeats 4000000 in
set_option maxRecDepth 100000 in
theorem c_X7_isPlace (l : Launch) {x1 : Int32} {ι : iS} {res : Int32 × iS} (hM : m_X7_isPlace x1 ι = some res) : aM l yX7_isPlace cX7_isPlace 2 (some .boolean) rm_X7_isPlace (fun ad => [.ref (ad 109), .int x1]) (aG ι) (some (.int res.1)) (aG res.2) := by
  refine aM.of (by decide) (fun _ => Nat.le_of_ble_eq_true rfl) ?_
  intro p e s m args below meth c D dA ad adV A ls C hw hl
  have C : aX p m c cX7_isPlace 2 s args aTs RX7 meth (some .boolean) := C
  have hx := C.1.1
  have hb := C.1.2.1
  have hml := C.1.2.2.1
  have hown := C.1.2.2.2.1
  have hts := C.1.2.2.2.2
  have hl : lv_has ls 2 [(0, .ref (ad 109)), (1, .int x1)] := hl
  unfold m_X7_isPlace at hM
  refine lv_iload_n hx hb dX7_isPlace_0 rfl (lv_at hl 1 rfl) ?_
  refine lv_iconst (v := (0 : Int32)) hx hb dX7_isPlace_1 (by decide) ?_
  refine lv_aload_n hx hb dX7_isPlace_2 rfl (lv_at hl 0 rfl) ?_
  refine a_getp (q := 112) (σ := aG ι) (o := 109) (T := TX7) (N := 20) C wU_X7 hw rfl (by decide) rfl 9 (by decide) rfl wF_X7_20 (aG_P rfl rfl) dX7_isPlace_3 ?_
  refine lv_iconst (v := (3 : Int32)) hx hb dX7_isPlace_6 (by decide) ?_
  refine a_iald (σ := aG ι) (o := 112) C hw rfl (aIn_v (by decide)) (show (3 : Int32).toNatClampNeg = 3 by decide) dX7_isPlace_7 ?_
  refine lv_iconst (v := (1 : Int32)) hx hb dX7_isPlace_8 (by decide) ?_
  refine lv_isub hx hb dX7_isPlace_9 ?_
  obtain ⟨r10, hr10, hM⟩ := h_b hM
  refine a_callS  (σ' := aG r10.2) (v := (some (.int r10.1))) (as := fun ad => [.int x1, .int (0 : Int32), .int ((gI ι 112 3) - (1 : Int32))]) (rest := []) C hw (c_X7_in l hr10) k_X7_in wM_X7_81 ⟨⟨rfl, rfl⟩, ⟨Nat.le_of_ble_eq_true rfl, Nat.le_of_ble_eq_true rfl⟩⟩ rfl hl rfl (Nat.le_of_ble_eq_true rfl) dX7_isPlace_10 ⟨Nat.zero_le _, Nat.zero_le _⟩ (fun H locs hw => ?_)
  obtain ⟨hz, hM⟩ := h_g hM
  cases h_e hM
  exact a_zret C (zn hz) hw dX7_isPlace_13
def rm_X7_hide : Room := { frames := 2, cells := 0, slots := 0, locals := 43 }
set_option maxHeartbeats 4000000 in
set_option maxRecDepth 100000 in
theorem tl_X7_hide_45 (l : Launch) {p : Program} {e : Env} {s : State} {m : MethodId} {args : Array Value} {below : List Frame} {meth : Method} {c : Code} {D : va_G} {dA : Nat → ClassId} {ad adV : Nat → Nat} {A : Nat → Prop} (C : aX p m c cX7_hide 3 s args aTs RX7 meth (some .int)) {res : Int32 × iS} : ∀ (n : Nat) (y1 : Int32) (y2 : Int32) {ι : iS}, l_X7_hide_45 n y1 y2 ι = some res → ∀ {H : Heap} {locs : List Loc} {ls : Array Slot}, aW D dA ad adV (aG ι) A s H locs → lv_has ls 3 [(0, .ref (ad 109)), (1, .int y1), (2, .int y2)] → W p l e rm_X7_hide s m args below meth c H locs 0 0 (MQ below (aQ D dA ad (aG res.2) A (some (.int res.1))) args s 0 0 A) (F0 m 45 ls []) := by
  have hx := C.1.1
  have hb := C.1.2.1
  have hml := C.1.2.2.1
  have hown := C.1.2.2.2.1
  have hts := C.1.2.2.2.2
  intro n
  induction n with
  | zero => intro y1 y2 ι hM; simp [l_X7_hide_45] at hM
  | succ n ih =>
    intro y1 y2 ι hM H locs ls hw hl
    rw [l_X7_hide_45] at hM
    refine lv_iload_n hx hb dX7_hide_45 rfl (lv_at hl 2 rfl) ?_
    refine lv_aload_n hx hb dX7_hide_46 rfl (lv_at hl 0 rfl) ?_
    refine a_getp (q := 112) (σ := aG ι) (o := 109) (T := TX7) (N := 20) C wU_X7 hw rfl (by decide) rfl 9 (by decide) rfl wF_X7_20 (aG_P rfl rfl) dX7_hide_47 ?_
    refine lv_iconst (v := (3 : Int32)) hx hb dX7_hide_50 (by decide) ?_
    refine a_iald (σ := aG ι) (o := 112) C hw rfl (aIn_v (by decide)) (show (3 : Int32).toNatClampNeg = 3 by decide) dX7_hide_51 ?_
    refine lv_icmp_ge (tgt := 81) hx hb dX7_hide_52 (by decide) (fun hc => ?_) (fun hc => ?_)
    · replace hM := h_t hc hM
      refine lv_aload_n hx hb dX7_hide_81 rfl (lv_at hl 0 rfl) ?_
      refine a_getp (q := 112) (σ := aG ι) (o := 109) (T := TX7) (N := 20) C wU_X7 hw rfl (by decide) rfl 9 (by decide) rfl wF_X7_20 (aG_P rfl rfl) dX7_hide_82 ?_
      refine lv_iconst (v := (3 : Int32)) hx hb dX7_hide_85 (by decide) ?_
      refine a_iald (σ := aG ι) (o := 112) C hw rfl (aIn_v (by decide)) (show (3 : Int32).toNatClampNeg = 3 by decide) dX7_hide_86 ?_
      cases h_e hM
      exact a_iret C hw dX7_hide_87
    · replace hM := h_f hc hM
      refine lv_aload_n hx hb dX7_hide_55 rfl (lv_at hl 0 rfl) ?_
      refine a_getp (q := 112) (σ := aG ι) (o := 109) (T := TX7) (N := 20) C wU_X7 hw rfl (by decide) rfl 9 (by decide) rfl wF_X7_20 (aG_P rfl rfl) dX7_hide_56 ?_
      refine lv_bipush (v := (99 : Int32)) hx hb dX7_hide_59 (by decide) ?_
      refine lv_iload_n hx hb dX7_hide_61 rfl (lv_at hl 2 rfl) ?_
      refine lv_iadd hx hb dX7_hide_62 ?_
      refine lv_aload_n hx hb dX7_hide_63 rfl (lv_at hl 0 rfl) ?_
      refine a_getp (q := 112) (σ := aG ι) (o := 109) (T := TX7) (N := 20) C wU_X7 hw rfl (by decide) rfl 9 (by decide) rfl wF_X7_20 (aG_P rfl rfl) dX7_hide_64 ?_
      refine lv_bipush (v := (99 : Int32)) hx hb dX7_hide_67 (by decide) ?_
      refine lv_iload_n hx hb dX7_hide_69 rfl (lv_at hl 2 rfl) ?_
      refine lv_iadd hx hb dX7_hide_70 ?_
      refine lv_iconst (v := (1 : Int32)) hx hb dX7_hide_71 (by decide) ?_
      refine lv_iadd hx hb dX7_hide_72 ?_
      obtain ⟨hi, hM⟩ := h_i hM
      refine a_iald (σ := aG ι) (o := 112) C hw rfl hi rfl dX7_hide_73 ?_
      obtain ⟨hi, hM⟩ := h_i hM
      refine a_iast (σ := aG ι) (o := 112) C hw rfl hi rfl dX7_hide_74 (fun H locs hw => ?_)
      have hw : aW D dA ad adV (aG (pI ι 112 ((99 : Int32) + y2).toNatClampNeg (gI ι 112 (((99 : Int32) + y2) + (1 : Int32)).toNatClampNeg))) A s H locs := hw
      refine lv_iinc (v := (y2 + 1)) (lv' := [(2, .int (y2 + 1)), (0, .ref (ad 109)), (1, .int y1)]) hx hb dX7_hide_75 hl (k := 2) rfl rfl (by decide) rfl (fun ls hl => ?_)
      refine lv_goto (tgt := 45) hx hb dX7_hide_78 (by decide) ?_
      exact ih (y1) ((y2 + 1)) hM hw (lv_sub hl [1, 2, 0] rfl)
theorem k_X7_hide : aCal RX7 yX7_hide cX7_hide 3 (some .int) 1 := ⟨wI_yX7_hide, wE_yX7_hide, wZ_X7, wC_yX7_hide, by decide +kernel⟩
set_option maxHeartbeats 4000000 in
set_option maxRecDepth 100000 in
theorem c_X7_hide (l : Launch) {x1 : Int32} {ι : iS} {res : Int32 × iS} (hM : m_X7_hide x1 ι = some res) : aM l yX7_hide cX7_hide 3 (some .int) rm_X7_hide (fun ad => [.ref (ad 109), .int x1]) (aG ι) (some (.int res.1)) (aG res.2) := by
  refine aM.of (by decide) (fun _ => Nat.le_of_ble_eq_true rfl) ?_
  intro p e s m args below meth c D dA ad adV A ls C hw hl
  have C : aX p m c cX7_hide 3 s args aTs RX7 meth (some .int) := C
  have hx := C.1.1
  have hb := C.1.2.1
  have hml := C.1.2.2.1
  have hown := C.1.2.2.2.1
  have hts := C.1.2.2.2.2
  have hl : lv_has ls 3 [(0, .ref (ad 109)), (1, .int x1)] := hl
  unfold m_X7_hide at hM
  refine lv_aload_n hx hb dX7_hide_0 rfl (lv_at hl 0 rfl) ?_
  refine lv_iconst (v := (0 : Int32)) hx hb dX7_hide_1 (by decide) ?_
  refine a_puti (ty := .int) (σ := aG ι) (o := 109) (T := TX7) (N := 20) (ty0 := tyX7) C wU_X7 tyX7_ok nmX7 hw rfl (by decide) rfl 0 (by decide) rfl wF_X7_42 rfl (by decide +kernel) rfl rfl dX7_hide_2 (fun H locs hw => ?_)
  have hw : aW D dA ad adV (aG (pI ι 109 0 (0 : Int32))) A s H locs := hw
  refine lv_aload_n hx hb dX7_hide_5 rfl (lv_at hl 0 rfl) ?_
  refine lv_aload_n hx hb dX7_hide_6 rfl (lv_at hl 0 rfl) ?_
  refine lv_iload_n hx hb dX7_hide_7 rfl (lv_at hl 1 rfl) ?_
  obtain ⟨r8, hr8, hM⟩ := h_b hM
  refine a_callV (σ' := aG r8.2) (v := (some (.int r8.1))) (As := fun ad => [.int x1]) (rest := [.ref (ad 109)]) (o := 109) C hw (c_X7_isPlace l hr8) k_X7_isPlace wM_X7_213 ⟨⟨rfl, rfl⟩, ⟨Nat.le_of_ble_eq_true rfl, Nat.le_of_ble_eq_true rfl⟩⟩ rfl (by decide) rfl rfl rfl hl rfl (Nat.le_of_ble_eq_true rfl) dX7_hide_8 ⟨Nat.zero_le _, Nat.zero_le _⟩ (fun H locs hw => ?_)
  refine lv_if_ne (tgt := 18) hx hb dX7_hide_11 (by decide) (fun hc => ?_) (fun hc => ?_)
  · replace hM := h_f hc hM
    refine lv_iconst (v := (0 : Int32)) hx hb dX7_hide_18 (by decide) ?_
    refine lv_iconst (v := (1 : Int32)) hx hb dX7_hide_19 (by decide) ?_
    refine lv_iconst (v := (0 : Int32)) hx hb dX7_hide_20 (by decide) ?_
    obtain ⟨r21, hr21, hM⟩ := h_b hM
    refine a_callV (σ' := aG r21.2) (v := (some (.int r21.1))) (As := fun ad => [.int (0 : Int32), .int (1 : Int32), .int (0 : Int32)]) (rest := []) (o := 109) C hw (c_X7_bad l hr21) k_X7_bad wM_X7_164 ⟨⟨rfl, rfl⟩, ⟨Nat.le_of_ble_eq_true rfl, Nat.le_of_ble_eq_true rfl⟩⟩ rfl (by decide) rfl rfl rfl hl rfl (Nat.le_of_ble_eq_true rfl) dX7_hide_21 ⟨Nat.zero_le _, Nat.zero_le _⟩ (fun H locs hw => ?_)
    refine lv_if_eq (tgt := 29) hx hb dX7_hide_24 (by decide) (fun hc => ?_) (fun hc => ?_)
    · replace hM := h_t hc hM
      refine lv_aload_n hx hb dX7_hide_29 rfl (lv_at hl 0 rfl) ?_
      obtain ⟨r30, hr30, hM⟩ := h_b hM
      refine a_callV (σ' := aG r30) (v := none) (As := fun ad => []) (rest := []) (o := 109) C hw (c_X7_remembers l hr30) k_X7_remembers wM_X7_173 ⟨⟨rfl, rfl⟩, ⟨Nat.le_of_ble_eq_true rfl, Nat.le_of_ble_eq_true rfl⟩⟩ rfl (by decide) rfl rfl rfl hl rfl (Nat.le_of_ble_eq_true rfl) dX7_hide_30 ⟨Nat.zero_le _, Nat.zero_le _⟩ (fun H locs hw => ?_)
      refine lv_aload_n hx hb dX7_hide_33 rfl (lv_at hl 0 rfl) ?_
      refine a_getp (q := 112) (σ := aG r30) (o := 109) (T := TX7) (N := 20) C wU_X7 hw rfl (by decide) rfl 9 (by decide) rfl wF_X7_20 (aG_P rfl rfl) dX7_hide_34 ?_
      refine lv_iconst (v := (3 : Int32)) hx hb dX7_hide_37 (by decide) ?_
      refine lv_dup2_11 hx hb dX7_hide_38 rfl rfl ?_
      refine a_iald (σ := aG r30) (o := 112) C hw rfl (aIn_v (by decide)) (show (3 : Int32).toNatClampNeg = 3 by decide) dX7_hide_39 ?_
      refine lv_iconst (v := (1 : Int32)) hx hb dX7_hide_40 (by decide) ?_
      refine lv_isub hx hb dX7_hide_41 ?_
      refine a_iast (σ := aG r30) (o := 112) C hw rfl (aIn_v (by decide)) (show (3 : Int32).toNatClampNeg = 3 by decide) dX7_hide_42 (fun H locs hw => ?_)
      have hw : aW D dA ad adV (aG (pI r30 112 3 ((gI r30 112 3) - (1 : Int32)))) A s H locs := hw
      refine lv_iload_n hx hb dX7_hide_43 rfl (lv_at hl 1 rfl) ?_
      refine lv_istore_n (lv' := [(2, .int x1), (0, .ref (ad 109)), (1, .int x1)]) hx hb dX7_hide_44 rfl hl (by decide) rfl (fun ls hl => ?_)
      exact tl_X7_hide_45 l C aF (x1) (x1) hM hw (lv_sub hl [1, 2, 0] rfl)
    · replace hM := h_f hc hM
      refine lv_iconst (v := (0 : Int32)) hx hb dX7_hide_27 (by decide) ?_
      cases h_e hM
      exact a_iret C hw dX7_hide_28
  · replace hM := h_t hc hM
    refine lv_iconst (v := (1 : Int32)) hx hb dX7_hide_14 (by decide) ?_
    refine lv_goto (tgt := 19) hx hb dX7_hide_15 (by decide) ?_
    refine lv_iconst (v := (1 : Int32)) hx hb dX7_hide_19 (by decide) ?_
    refine lv_iconst (v := (0 : Int32)) hx hb dX7_hide_20 (by decide) ?_
    obtain ⟨r21, hr21, hM⟩ := h_b hM
    refine a_callV (σ' := aG r21.2) (v := (some (.int r21.1))) (As := fun ad => [.int (1 : Int32), .int (1 : Int32), .int (0 : Int32)]) (rest := []) (o := 109) C hw (c_X7_bad l hr21) k_X7_bad wM_X7_164 ⟨⟨rfl, rfl⟩, ⟨Nat.le_of_ble_eq_true rfl, Nat.le_of_ble_eq_true rfl⟩⟩ rfl (by decide) rfl rfl rfl hl rfl (Nat.le_of_ble_eq_true rfl) dX7_hide_21 ⟨Nat.zero_le _, Nat.zero_le _⟩ (fun H locs hw => ?_)
    refine lv_if_eq (tgt := 29) hx hb dX7_hide_24 (by decide) (fun hc => ?_) (fun hc => ?_)
    · replace hM := h_t hc hM
      refine lv_aload_n hx hb dX7_hide_29 rfl (lv_at hl 0 rfl) ?_
      obtain ⟨r30, hr30, hM⟩ := h_b hM
      refine a_callV (σ' := aG r30) (v := none) (As := fun ad => []) (rest := []) (o := 109) C hw (c_X7_remembers l hr30) k_X7_remembers wM_X7_173 ⟨⟨rfl, rfl⟩, ⟨Nat.le_of_ble_eq_true rfl, Nat.le_of_ble_eq_true rfl⟩⟩ rfl (by decide) rfl rfl rfl hl rfl (Nat.le_of_ble_eq_true rfl) dX7_hide_30 ⟨Nat.zero_le _, Nat.zero_le _⟩ (fun H locs hw => ?_)
      refine lv_aload_n hx hb dX7_hide_33 rfl (lv_at hl 0 rfl) ?_
      refine a_getp (q := 112) (σ := aG r30) (o := 109) (T := TX7) (N := 20) C wU_X7 hw rfl (by decide) rfl 9 (by decide) rfl wF_X7_20 (aG_P rfl rfl) dX7_hide_34 ?_
      refine lv_iconst (v := (3 : Int32)) hx hb dX7_hide_37 (by decide) ?_
      refine lv_dup2_11 hx hb dX7_hide_38 rfl rfl ?_
      refine a_iald (σ := aG r30) (o := 112) C hw rfl (aIn_v (by decide)) (show (3 : Int32).toNatClampNeg = 3 by decide) dX7_hide_39 ?_
      refine lv_iconst (v := (1 : Int32)) hx hb dX7_hide_40 (by decide) ?_
      refine lv_isub hx hb dX7_hide_41 ?_
      refine a_iast (σ := aG r30) (o := 112) C hw rfl (aIn_v (by decide)) (show (3 : Int32).toNatClampNeg = 3 by decide) dX7_hide_42 (fun H locs hw => ?_)
      have hw : aW D dA ad adV (aG (pI r30 112 3 ((gI r30 112 3) - (1 : Int32)))) A s H locs := hw
      refine lv_iload_n hx hb dX7_hide_43 rfl (lv_at hl 1 rfl) ?_
      refine lv_istore_n (lv' := [(2, .int x1), (0, .ref (ad 109)), (1, .int x1)]) hx hb dX7_hide_44 rfl hl (by decide) rfl (fun ls hl => ?_)
      exact tl_X7_hide_45 l C aF (x1) (x1) hM hw (lv_sub hl [1, 2, 0] rfl)
    · replace hM := h_f hc hM
      refine lv_iconst (v := (0 : Int32)) hx hb dX7_hide_27 (by decide) ?_
      cases h_e hM
      exact a_iret C hw dX7_hide_28
def rm_X7_change : Room := { frames := 2, cells := 0, slots := 0, locals := 43 }
theorem k_X7_change : aCal RX7 yX7_change cX7_change 5 (some .int) 2 := ⟨wI_yX7_change, wE_yX7_change, wZ_X7, wC_yX7_change, by decide +kernel⟩
set_option maxHeartbeats 4000000 in
set_option maxRecDepth 100000 in
theorem c_X7_change (l : Launch) {x1 : Int32} {x2 : Int32} {ι : iS} {res : Int32 × iS} (hM : m_X7_change x1 x2 ι = some res) : aM l yX7_change cX7_change 5 (some .int) rm_X7_change (fun ad => [.ref (ad 109), .int x1, .int x2]) (aG ι) (some (.int res.1)) (aG res.2) := by
  refine aM.of (by decide) (fun _ => Nat.le_of_ble_eq_true rfl) ?_
  intro p e s m args below meth c D dA ad adV A ls C hw hl
  have C : aX p m c cX7_change 5 s args aTs RX7 meth (some .int) := C
  have hx := C.1.1
  have hb := C.1.2.1
  have hml := C.1.2.2.1
  have hown := C.1.2.2.2.1
  have hts := C.1.2.2.2.2
  have hl : lv_has ls 5 [(0, .ref (ad 109)), (1, .int x1), (2, .int x2)] := hl
  unfold m_X7_change at hM
  refine lv_aload_n hx hb dX7_change_0 rfl (lv_at hl 0 rfl) ?_
  refine lv_iconst (v := (0 : Int32)) hx hb dX7_change_1 (by decide) ?_
  refine a_puti (ty := .int) (σ := aG ι) (o := 109) (T := TX7) (N := 20) (ty0 := tyX7) C wU_X7 tyX7_ok nmX7 hw rfl (by decide) rfl 0 (by decide) rfl wF_X7_42 rfl (by decide +kernel) rfl rfl dX7_change_2 (fun H locs hw => ?_)
  have hw : aW D dA ad adV (aG (pI ι 109 0 (0 : Int32))) A s H locs := hw
  refine lv_iload_n hx hb dX7_change_5 rfl (lv_at hl 1 rfl) ?_
  refine lv_if_ne (tgt := 13) hx hb dX7_change_6 (by decide) (fun hc => ?_) (fun hc => ?_)
  · replace hM := h_f hc hM
    refine lv_iload_n hx hb dX7_change_13 rfl (lv_at hl 1 rfl) ?_
    refine lv_iconst (v := (1 : Int32)) hx hb dX7_change_14 (by decide) ?_
    refine lv_icmp_ne (tgt := 23) hx hb dX7_change_15 (by decide) (fun hc => ?_) (fun hc => ?_)
    · replace hM := h_f hc hM
      refine lv_iload_n hx hb dX7_change_23 rfl (lv_at hl 1 rfl) ?_
      refine lv_iconst (v := (2 : Int32)) hx hb dX7_change_24 (by decide) ?_
      refine lv_icmp_ne (tgt := 33) hx hb dX7_change_25 (by decide) (fun hc => ?_) (fun hc => ?_)
      · replace hM := h_f hc hM
        refine lv_bipush (v := (99 : Int32)) hx hb dX7_change_33 (by decide) ?_
        refine lv_istore_n (lv' := [(3, .int (99 : Int32)), (0, .ref (ad 109)), (1, .int x1), (2, .int x2)]) hx hb dX7_change_35 rfl hl (by decide) rfl (fun ls hl => ?_)
        refine lv_aload_n hx hb dX7_change_36 rfl (lv_at hl 1 rfl) ?_
        refine lv_iload_n hx hb dX7_change_37 rfl (lv_at hl 2 rfl) ?_
        refine lv_iconst (v := (0 : Int32)) hx hb dX7_change_38 (by decide) ?_
        refine lv_iconst (v := (3 : Int32)) hx hb dX7_change_39 (by decide) ?_
        obtain ⟨r40, hr40, hM⟩ := h_b hM
        refine a_callS  (σ' := aG r40.2) (v := (some (.int r40.1))) (as := fun ad => [.int x1, .int (0 : Int32), .int (3 : Int32)]) (rest := [.ref (ad 109)]) C hw (c_X7_in l hr40) k_X7_in wM_X7_81 ⟨⟨rfl, rfl⟩, ⟨Nat.le_of_ble_eq_true rfl, Nat.le_of_ble_eq_true rfl⟩⟩ rfl hl rfl (Nat.le_of_ble_eq_true rfl) dX7_change_40 ⟨Nat.zero_le _, Nat.zero_le _⟩ (fun H locs hw => ?_)
        refine lv_if_eq (tgt := 64) hx hb dX7_change_43 (by decide) (fun hc => ?_) (fun hc => ?_)
        · replace hM := h_t hc hM
          refine lv_iconst (v := (1 : Int32)) hx hb dX7_change_64 (by decide) ?_
          refine lv_goto (tgt := 69) hx hb dX7_change_65 (by decide) ?_
          refine lv_iconst (v := (1 : Int32)) hx hb dX7_change_69 (by decide) ?_
          refine lv_iconst (v := (1 : Int32)) hx hb dX7_change_70 (by decide) ?_
          obtain ⟨r71, hr71, hM⟩ := h_b hM
          refine a_callV (σ' := aG r71.2) (v := (some (.int r71.1))) (As := fun ad => [.int (1 : Int32), .int (1 : Int32), .int (1 : Int32)]) (rest := []) (o := 109) C hw (c_X7_bad l hr71) k_X7_bad wM_X7_164 ⟨⟨rfl, rfl⟩, ⟨Nat.le_of_ble_eq_true rfl, Nat.le_of_ble_eq_true rfl⟩⟩ rfl (by decide) rfl rfl rfl hl rfl (Nat.le_of_ble_eq_true rfl) dX7_change_71 ⟨Nat.zero_le _, Nat.zero_le _⟩ (fun H locs hw => ?_)
          refine lv_if_eq (tgt := 79) hx hb dX7_change_74 (by decide) (fun hc => ?_) (fun hc => ?_)
          · replace hM := h_t hc hM
            refine lv_aload_n hx hb dX7_change_79 rfl (lv_at hl 1 rfl) ?_
            obtain ⟨r80, hr80, hM⟩ := h_b hM
            refine a_callV (σ' := aG r80) (v := none) (As := fun ad => []) (rest := []) (o := 109) C hw (c_X7_remembers l hr80) k_X7_remembers wM_X7_173 ⟨⟨rfl, rfl⟩, ⟨Nat.le_of_ble_eq_true rfl, Nat.le_of_ble_eq_true rfl⟩⟩ rfl (by decide) rfl rfl rfl hl rfl (Nat.le_of_ble_eq_true rfl) dX7_change_80 ⟨Nat.zero_le _, Nat.zero_le _⟩ (fun H locs hw => ?_)
            refine lv_aload_n hx hb dX7_change_83 rfl (lv_at hl 1 rfl) ?_
            refine a_getp (q := 112) (σ := aG r80) (o := 109) (T := TX7) (N := 20) C wU_X7 hw rfl (by decide) rfl 9 (by decide) rfl wF_X7_20 (aG_P rfl rfl) dX7_change_84 ?_
            refine lv_iconst (v := (4 : Int32)) hx hb dX7_change_87 (by decide) ?_
            refine lv_iload_n hx hb dX7_change_88 rfl (lv_at hl 2 rfl) ?_
            refine lv_iadd hx hb dX7_change_89 ?_
            obtain ⟨hi, hM⟩ := h_i hM
            refine a_iald (σ := aG r80) (o := 112) C hw rfl hi rfl dX7_change_90 ?_
            refine lv_istore (lv' := [(4, .int (gI r80 112 ((4 : Int32) + x1).toNatClampNeg)), (3, .int (99 : Int32)), (0, .ref (ad 109)), (1, .int x1), (2, .int x2)]) hx hb dX7_change_91 hl (by decide) rfl (fun ls hl => ?_)
            refine lv_aload_n hx hb dX7_change_93 rfl (lv_at hl 2 rfl) ?_
            refine a_getp (q := 112) (σ := aG r80) (o := 109) (T := TX7) (N := 20) C wU_X7 hw rfl (by decide) rfl 9 (by decide) rfl wF_X7_20 (aG_P rfl rfl) dX7_change_94 ?_
            refine lv_iconst (v := (4 : Int32)) hx hb dX7_change_97 (by decide) ?_
            refine lv_iload_n hx hb dX7_change_98 rfl (lv_at hl 3 rfl) ?_
            refine lv_iadd hx hb dX7_change_99 ?_
            refine lv_iload_n hx hb dX7_change_100 rfl (lv_at hl 4 rfl) ?_
            obtain ⟨hi, hM⟩ := h_i hM
            refine a_iast (σ := aG r80) (o := 112) C hw rfl hi rfl dX7_change_101 (fun H locs hw => ?_)
            have hw : aW D dA ad adV (aG (pI r80 112 ((4 : Int32) + x1).toNatClampNeg x2)) A s H locs := hw
            refine lv_iload hx hb dX7_change_102 (lv_at hl 0 rfl) ?_
            cases h_e hM
            exact a_iret C hw dX7_change_104
          · replace hM := h_f hc hM
            refine lv_iconst (v := (0 : Int32)) hx hb dX7_change_77 (by decide) ?_
            cases h_e hM
            exact a_iret C hw dX7_change_78
        · replace hM := h_f hc hM
          refine lv_iload_n hx hb dX7_change_46 rfl (lv_at hl 3 rfl) ?_
          refine lv_iload_n hx hb dX7_change_47 rfl (lv_at hl 2 rfl) ?_
          refine lv_iconst (v := (3 : Int32)) hx hb dX7_change_48 (by decide) ?_
          refine lv_icmp_ne (tgt := 56) hx hb dX7_change_49 (by decide) (fun hc => ?_) (fun hc => ?_)
          · replace hM := h_f hc hM
            refine lv_iconst (v := (0 : Int32)) hx hb dX7_change_56 (by decide) ?_
            refine lv_iload_n hx hb dX7_change_57 rfl (lv_at hl 0 rfl) ?_
            obtain ⟨r58, hr58, hM⟩ := h_b hM
            refine a_callS  (σ' := aG r58.2) (v := (some (.int r58.1))) (as := fun ad => [.int x2, .int (0 : Int32), .int (99 : Int32)]) (rest := [.ref (ad 109)]) C hw (c_X7_in l hr58) k_X7_in wM_X7_81 ⟨⟨rfl, rfl⟩, ⟨Nat.le_of_ble_eq_true rfl, Nat.le_of_ble_eq_true rfl⟩⟩ rfl hl rfl (Nat.le_of_ble_eq_true rfl) dX7_change_58 ⟨Nat.zero_le _, Nat.zero_le _⟩ (fun H locs hw => ?_)
            refine lv_if_ne (tgt := 68) hx hb dX7_change_61 (by decide) (fun hc => ?_) (fun hc => ?_)
            · replace hM := h_f hc hM
              refine lv_iconst (v := (0 : Int32)) hx hb dX7_change_68 (by decide) ?_
              refine lv_iconst (v := (1 : Int32)) hx hb dX7_change_69 (by decide) ?_
              refine lv_iconst (v := (1 : Int32)) hx hb dX7_change_70 (by decide) ?_
              obtain ⟨r71, hr71, hM⟩ := h_b hM
              refine a_callV (σ' := aG r71.2) (v := (some (.int r71.1))) (As := fun ad => [.int (0 : Int32), .int (1 : Int32), .int (1 : Int32)]) (rest := []) (o := 109) C hw (c_X7_bad l hr71) k_X7_bad wM_X7_164 ⟨⟨rfl, rfl⟩, ⟨Nat.le_of_ble_eq_true rfl, Nat.le_of_ble_eq_true rfl⟩⟩ rfl (by decide) rfl rfl rfl hl rfl (Nat.le_of_ble_eq_true rfl) dX7_change_71 ⟨Nat.zero_le _, Nat.zero_le _⟩ (fun H locs hw => ?_)
              refine lv_if_eq (tgt := 79) hx hb dX7_change_74 (by decide) (fun hc => ?_) (fun hc => ?_)
              · replace hM := h_t hc hM
                refine lv_aload_n hx hb dX7_change_79 rfl (lv_at hl 1 rfl) ?_
                obtain ⟨r80, hr80, hM⟩ := h_b hM
                refine a_callV (σ' := aG r80) (v := none) (As := fun ad => []) (rest := []) (o := 109) C hw (c_X7_remembers l hr80) k_X7_remembers wM_X7_173 ⟨⟨rfl, rfl⟩, ⟨Nat.le_of_ble_eq_true rfl, Nat.le_of_ble_eq_true rfl⟩⟩ rfl (by decide) rfl rfl rfl hl rfl (Nat.le_of_ble_eq_true rfl) dX7_change_80 ⟨Nat.zero_le _, Nat.zero_le _⟩ (fun H locs hw => ?_)
                refine lv_aload_n hx hb dX7_change_83 rfl (lv_at hl 1 rfl) ?_
                refine a_getp (q := 112) (σ := aG r80) (o := 109) (T := TX7) (N := 20) C wU_X7 hw rfl (by decide) rfl 9 (by decide) rfl wF_X7_20 (aG_P rfl rfl) dX7_change_84 ?_
                refine lv_iconst (v := (4 : Int32)) hx hb dX7_change_87 (by decide) ?_
                refine lv_iload_n hx hb dX7_change_88 rfl (lv_at hl 2 rfl) ?_
                refine lv_iadd hx hb dX7_change_89 ?_
                obtain ⟨hi, hM⟩ := h_i hM
                refine a_iald (σ := aG r80) (o := 112) C hw rfl hi rfl dX7_change_90 ?_
                refine lv_istore (lv' := [(4, .int (gI r80 112 ((4 : Int32) + x1).toNatClampNeg)), (3, .int (99 : Int32)), (0, .ref (ad 109)), (1, .int x1), (2, .int x2)]) hx hb dX7_change_91 hl (by decide) rfl (fun ls hl => ?_)
                refine lv_aload_n hx hb dX7_change_93 rfl (lv_at hl 2 rfl) ?_
                refine a_getp (q := 112) (σ := aG r80) (o := 109) (T := TX7) (N := 20) C wU_X7 hw rfl (by decide) rfl 9 (by decide) rfl wF_X7_20 (aG_P rfl rfl) dX7_change_94 ?_
                refine lv_iconst (v := (4 : Int32)) hx hb dX7_change_97 (by decide) ?_
                refine lv_iload_n hx hb dX7_change_98 rfl (lv_at hl 3 rfl) ?_
                refine lv_iadd hx hb dX7_change_99 ?_
                refine lv_iload_n hx hb dX7_change_100 rfl (lv_at hl 4 rfl) ?_
                obtain ⟨hi, hM⟩ := h_i hM
                refine a_iast (σ := aG r80) (o := 112) C hw rfl hi rfl dX7_change_101 (fun H locs hw => ?_)
                have hw : aW D dA ad adV (aG (pI r80 112 ((4 : Int32) + x1).toNatClampNeg x2)) A s H locs := hw
                refine lv_iload hx hb dX7_change_102 (lv_at hl 0 rfl) ?_
                cases h_e hM
                exact a_iret C hw dX7_change_104
              · replace hM := h_f hc hM
                refine lv_iconst (v := (0 : Int32)) hx hb dX7_change_77 (by decide) ?_
                cases h_e hM
                exact a_iret C hw dX7_change_78
            · replace hM := h_t hc hM
              refine lv_iconst (v := (1 : Int32)) hx hb dX7_change_64 (by decide) ?_
              refine lv_goto (tgt := 69) hx hb dX7_change_65 (by decide) ?_
              refine lv_iconst (v := (1 : Int32)) hx hb dX7_change_69 (by decide) ?_
              refine lv_iconst (v := (1 : Int32)) hx hb dX7_change_70 (by decide) ?_
              obtain ⟨r71, hr71, hM⟩ := h_b hM
              refine a_callV (σ' := aG r71.2) (v := (some (.int r71.1))) (As := fun ad => [.int (1 : Int32), .int (1 : Int32), .int (1 : Int32)]) (rest := []) (o := 109) C hw (c_X7_bad l hr71) k_X7_bad wM_X7_164 ⟨⟨rfl, rfl⟩, ⟨Nat.le_of_ble_eq_true rfl, Nat.le_of_ble_eq_true rfl⟩⟩ rfl (by decide) rfl rfl rfl hl rfl (Nat.le_of_ble_eq_true rfl) dX7_change_71 ⟨Nat.zero_le _, Nat.zero_le _⟩ (fun H locs hw => ?_)
              refine lv_if_eq (tgt := 79) hx hb dX7_change_74 (by decide) (fun hc => ?_) (fun hc => ?_)
              · replace hM := h_t hc hM
                refine lv_aload_n hx hb dX7_change_79 rfl (lv_at hl 1 rfl) ?_
                obtain ⟨r80, hr80, hM⟩ := h_b hM
                refine a_callV (σ' := aG r80) (v := none) (As := fun ad => []) (rest := []) (o := 109) C hw (c_X7_remembers l hr80) k_X7_remembers wM_X7_173 ⟨⟨rfl, rfl⟩, ⟨Nat.le_of_ble_eq_true rfl, Nat.le_of_ble_eq_true rfl⟩⟩ rfl (by decide) rfl rfl rfl hl rfl (Nat.le_of_ble_eq_true rfl) dX7_change_80 ⟨Nat.zero_le _, Nat.zero_le _⟩ (fun H locs hw => ?_)
                refine lv_aload_n hx hb dX7_change_83 rfl (lv_at hl 1 rfl) ?_
                refine a_getp (q := 112) (σ := aG r80) (o := 109) (T := TX7) (N := 20) C wU_X7 hw rfl (by decide) rfl 9 (by decide) rfl wF_X7_20 (aG_P rfl rfl) dX7_change_84 ?_
                refine lv_iconst (v := (4 : Int32)) hx hb dX7_change_87 (by decide) ?_
                refine lv_iload_n hx hb dX7_change_88 rfl (lv_at hl 2 rfl) ?_
                refine lv_iadd hx hb dX7_change_89 ?_
                obtain ⟨hi, hM⟩ := h_i hM
                refine a_iald (σ := aG r80) (o := 112) C hw rfl hi rfl dX7_change_90 ?_
                refine lv_istore (lv' := [(4, .int (gI r80 112 ((4 : Int32) + x1).toNatClampNeg)), (3, .int (99 : Int32)), (0, .ref (ad 109)), (1, .int x1), (2, .int x2)]) hx hb dX7_change_91 hl (by decide) rfl (fun ls hl => ?_)
                refine lv_aload_n hx hb dX7_change_93 rfl (lv_at hl 2 rfl) ?_
                refine a_getp (q := 112) (σ := aG r80) (o := 109) (T := TX7) (N := 20) C wU_X7 hw rfl (by decide) rfl 9 (by decide) rfl wF_X7_20 (aG_P rfl rfl) dX7_change_94 ?_
                refine lv_iconst (v := (4 : Int32)) hx hb dX7_change_97 (by decide) ?_
                refine lv_iload_n hx hb dX7_change_98 rfl (lv_at hl 3 rfl) ?_
                refine lv_iadd hx hb dX7_change_99 ?_
                refine lv_iload_n hx hb dX7_change_100 rfl (lv_at hl 4 rfl) ?_
                obtain ⟨hi, hM⟩ := h_i hM
                refine a_iast (σ := aG r80) (o := 112) C hw rfl hi rfl dX7_change_101 (fun H locs hw => ?_)
                have hw : aW D dA ad adV (aG (pI r80 112 ((4 : Int32) + x1).toNatClampNeg x2)) A s H locs := hw
                refine lv_iload hx hb dX7_change_102 (lv_at hl 0 rfl) ?_
                cases h_e hM
                exact a_iret C hw dX7_change_104
              · replace hM := h_f hc hM
                refine lv_iconst (v := (0 : Int32)) hx hb dX7_change_77 (by decide) ?_
                cases h_e hM
                exact a_iret C hw dX7_change_78
          · replace hM := h_t hc hM
            refine lv_iconst (v := (1 : Int32)) hx hb dX7_change_52 (by decide) ?_
            refine lv_goto (tgt := 57) hx hb dX7_change_53 (by decide) ?_
            refine lv_iload_n hx hb dX7_change_57 rfl (lv_at hl 0 rfl) ?_
            obtain ⟨r58, hr58, hM⟩ := h_b hM
            refine a_callS  (σ' := aG r58.2) (v := (some (.int r58.1))) (as := fun ad => [.int x2, .int (1 : Int32), .int (99 : Int32)]) (rest := [.ref (ad 109)]) C hw (c_X7_in l hr58) k_X7_in wM_X7_81 ⟨⟨rfl, rfl⟩, ⟨Nat.le_of_ble_eq_true rfl, Nat.le_of_ble_eq_true rfl⟩⟩ rfl hl rfl (Nat.le_of_ble_eq_true rfl) dX7_change_58 ⟨Nat.zero_le _, Nat.zero_le _⟩ (fun H locs hw => ?_)
            refine lv_if_ne (tgt := 68) hx hb dX7_change_61 (by decide) (fun hc => ?_) (fun hc => ?_)
            · replace hM := h_f hc hM
              refine lv_iconst (v := (0 : Int32)) hx hb dX7_change_68 (by decide) ?_
              refine lv_iconst (v := (1 : Int32)) hx hb dX7_change_69 (by decide) ?_
              refine lv_iconst (v := (1 : Int32)) hx hb dX7_change_70 (by decide) ?_
              obtain ⟨r71, hr71, hM⟩ := h_b hM
              refine a_callV (σ' := aG r71.2) (v := (some (.int r71.1))) (As := fun ad => [.int (0 : Int32), .int (1 : Int32), .int (1 : Int32)]) (rest := []) (o := 109) C hw (c_X7_bad l hr71) k_X7_bad wM_X7_164 ⟨⟨rfl, rfl⟩, ⟨Nat.le_of_ble_eq_true rfl, Nat.le_of_ble_eq_true rfl⟩⟩ rfl (by decide) rfl rfl rfl hl rfl (Nat.le_of_ble_eq_true rfl) dX7_change_71 ⟨Nat.zero_le _, Nat.zero_le _⟩ (fun H locs hw => ?_)
              refine lv_if_eq (tgt := 79) hx hb dX7_change_74 (by decide) (fun hc => ?_) (fun hc => ?_)
              · replace hM := h_t hc hM
                refine lv_aload_n hx hb dX7_change_79 rfl (lv_at hl 1 rfl) ?_
                obtain ⟨r80, hr80, hM⟩ := h_b hM
                refine a_callV (σ' := aG r80) (v := none) (As := fun ad => []) (rest := []) (o := 109) C hw (c_X7_remembers l hr80) k_X7_remembers wM_X7_173 ⟨⟨rfl, rfl⟩, ⟨Nat.le_of_ble_eq_true rfl, Nat.le_of_ble_eq_true rfl⟩⟩ rfl (by decide) rfl rfl rfl hl rfl (Nat.le_of_ble_eq_true rfl) dX7_change_80 ⟨Nat.zero_le _, Nat.zero_le _⟩ (fun H locs hw => ?_)
                refine lv_aload_n hx hb dX7_change_83 rfl (lv_at hl 1 rfl) ?_
                refine a_getp (q := 112) (σ := aG r80) (o := 109) (T := TX7) (N := 20) C wU_X7 hw rfl (by decide) rfl 9 (by decide) rfl wF_X7_20 (aG_P rfl rfl) dX7_change_84 ?_
                refine lv_iconst (v := (4 : Int32)) hx hb dX7_change_87 (by decide) ?_
                refine lv_iload_n hx hb dX7_change_88 rfl (lv_at hl 2 rfl) ?_
                refine lv_iadd hx hb dX7_change_89 ?_
                obtain ⟨hi, hM⟩ := h_i hM
                refine a_iald (σ := aG r80) (o := 112) C hw rfl hi rfl dX7_change_90 ?_
                refine lv_istore (lv' := [(4, .int (gI r80 112 ((4 : Int32) + x1).toNatClampNeg)), (3, .int (99 : Int32)), (0, .ref (ad 109)), (1, .int x1), (2, .int x2)]) hx hb dX7_change_91 hl (by decide) rfl (fun ls hl => ?_)
                refine lv_aload_n hx hb dX7_change_93 rfl (lv_at hl 2 rfl) ?_
                refine a_getp (q := 112) (σ := aG r80) (o := 109) (T := TX7) (N := 20) C wU_X7 hw rfl (by decide) rfl 9 (by decide) rfl wF_X7_20 (aG_P rfl rfl) dX7_change_94 ?_
                refine lv_iconst (v := (4 : Int32)) hx hb dX7_change_97 (by decide) ?_
                refine lv_iload_n hx hb dX7_change_98 rfl (lv_at hl 3 rfl) ?_
                refine lv_iadd hx hb dX7_change_99 ?_
                refine lv_iload_n hx hb dX7_change_100 rfl (lv_at hl 4 rfl) ?_
                obtain ⟨hi, hM⟩ := h_i hM
                refine a_iast (σ := aG r80) (o := 112) C hw rfl hi rfl dX7_change_101 (fun H locs hw => ?_)
                have hw : aW D dA ad adV (aG (pI r80 112 ((4 : Int32) + x1).toNatClampNeg x2)) A s H locs := hw
                refine lv_iload hx hb dX7_change_102 (lv_at hl 0 rfl) ?_
                cases h_e hM
                exact a_iret C hw dX7_change_104
              · replace hM := h_f hc hM
                refine lv_iconst (v := (0 : Int32)) hx hb dX7_change_77 (by decide) ?_
                cases h_e hM
                exact a_iret C hw dX7_change_78
            · replace hM := h_t hc hM
              refine lv_iconst (v := (1 : Int32)) hx hb dX7_change_64 (by decide) ?_
              refine lv_goto (tgt := 69) hx hb dX7_change_65 (by decide) ?_
              refine lv_iconst (v := (1 : Int32)) hx hb dX7_change_69 (by decide) ?_
              refine lv_iconst (v := (1 : Int32)) hx hb dX7_change_70 (by decide) ?_
              obtain ⟨r71, hr71, hM⟩ := h_b hM
              refine a_callV (σ' := aG r71.2) (v := (some (.int r71.1))) (As := fun ad => [.int (1 : Int32), .int (1 : Int32), .int (1 : Int32)]) (rest := []) (o := 109) C hw (c_X7_bad l hr71) k_X7_bad wM_X7_164 ⟨⟨rfl, rfl⟩, ⟨Nat.le_of_ble_eq_true rfl, Nat.le_of_ble_eq_true rfl⟩⟩ rfl (by decide) rfl rfl rfl hl rfl (Nat.le_of_ble_eq_true rfl) dX7_change_71 ⟨Nat.zero_le _, Nat.zero_le _⟩ (fun H locs hw => ?_)
              refine lv_if_eq (tgt := 79) hx hb dX7_change_74 (by decide) (fun hc => ?_) (fun hc => ?_)
              · replace hM := h_t hc hM
                refine lv_aload_n hx hb dX7_change_79 rfl (lv_at hl 1 rfl) ?_
                obtain ⟨r80, hr80, hM⟩ := h_b hM
                refine a_callV (σ' := aG r80) (v := none) (As := fun ad => []) (rest := []) (o := 109) C hw (c_X7_remembers l hr80) k_X7_remembers wM_X7_173 ⟨⟨rfl, rfl⟩, ⟨Nat.le_of_ble_eq_true rfl, Nat.le_of_ble_eq_true rfl⟩⟩ rfl (by decide) rfl rfl rfl hl rfl (Nat.le_of_ble_eq_true rfl) dX7_change_80 ⟨Nat.zero_le _, Nat.zero_le _⟩ (fun H locs hw => ?_)
                refine lv_aload_n hx hb dX7_change_83 rfl (lv_at hl 1 rfl) ?_
                refine a_getp (q := 112) (σ := aG r80) (o := 109) (T := TX7) (N := 20) C wU_X7 hw rfl (by decide) rfl 9 (by decide) rfl wF_X7_20 (aG_P rfl rfl) dX7_change_84 ?_
                refine lv_iconst (v := (4 : Int32)) hx hb dX7_change_87 (by decide) ?_
                refine lv_iload_n hx hb dX7_change_88 rfl (lv_at hl 2 rfl) ?_
                refine lv_iadd hx hb dX7_change_89 ?_
                obtain ⟨hi, hM⟩ := h_i hM
                refine a_iald (σ := aG r80) (o := 112) C hw rfl hi rfl dX7_change_90 ?_
                refine lv_istore (lv' := [(4, .int (gI r80 112 ((4 : Int32) + x1).toNatClampNeg)), (3, .int (99 : Int32)), (0, .ref (ad 109)), (1, .int x1), (2, .int x2)]) hx hb dX7_change_91 hl (by decide) rfl (fun ls hl => ?_)
                refine lv_aload_n hx hb dX7_change_93 rfl (lv_at hl 2 rfl) ?_
                refine a_getp (q := 112) (σ := aG r80) (o := 109) (T := TX7) (N := 20) C wU_X7 hw rfl (by decide) rfl 9 (by decide) rfl wF_X7_20 (aG_P rfl rfl) dX7_change_94 ?_
                refine lv_iconst (v := (4 : Int32)) hx hb dX7_change_97 (by decide) ?_
                refine lv_iload_n hx hb dX7_change_98 rfl (lv_at hl 3 rfl) ?_
                refine lv_iadd hx hb dX7_change_99 ?_
                refine lv_iload_n hx hb dX7_change_100 rfl (lv_at hl 4 rfl) ?_
                obtain ⟨hi, hM⟩ := h_i hM
                refine a_iast (σ := aG r80) (o := 112) C hw rfl hi rfl dX7_change_101 (fun H locs hw => ?_)
                have hw : aW D dA ad adV (aG (pI r80 112 ((4 : Int32) + x1).toNatClampNeg x2)) A s H locs := hw
                refine lv_iload hx hb dX7_change_102 (lv_at hl 0 rfl) ?_
                cases h_e hM
                exact a_iret C hw dX7_change_104
              · replace hM := h_f hc hM
                refine lv_iconst (v := (0 : Int32)) hx hb dX7_change_77 (by decide) ?_
                cases h_e hM
                exact a_iret C hw dX7_change_78
      · replace hM := h_t hc hM
        refine lv_bipush (v := (20 : Int32)) hx hb dX7_change_28 (by decide) ?_
        refine lv_goto (tgt := 35) hx hb dX7_change_30 (by decide) ?_
        refine lv_istore_n (lv' := [(3, .int (20 : Int32)), (0, .ref (ad 109)), (1, .int x1), (2, .int x2)]) hx hb dX7_change_35 rfl hl (by decide) rfl (fun ls hl => ?_)
        refine lv_aload_n hx hb dX7_change_36 rfl (lv_at hl 1 rfl) ?_
        refine lv_iload_n hx hb dX7_change_37 rfl (lv_at hl 2 rfl) ?_
        refine lv_iconst (v := (0 : Int32)) hx hb dX7_change_38 (by decide) ?_
        refine lv_iconst (v := (3 : Int32)) hx hb dX7_change_39 (by decide) ?_
        obtain ⟨r40, hr40, hM⟩ := h_b hM
        refine a_callS  (σ' := aG r40.2) (v := (some (.int r40.1))) (as := fun ad => [.int x1, .int (0 : Int32), .int (3 : Int32)]) (rest := [.ref (ad 109)]) C hw (c_X7_in l hr40) k_X7_in wM_X7_81 ⟨⟨rfl, rfl⟩, ⟨Nat.le_of_ble_eq_true rfl, Nat.le_of_ble_eq_true rfl⟩⟩ rfl hl rfl (Nat.le_of_ble_eq_true rfl) dX7_change_40 ⟨Nat.zero_le _, Nat.zero_le _⟩ (fun H locs hw => ?_)
        refine lv_if_eq (tgt := 64) hx hb dX7_change_43 (by decide) (fun hc => ?_) (fun hc => ?_)
        · replace hM := h_t hc hM
          refine lv_iconst (v := (1 : Int32)) hx hb dX7_change_64 (by decide) ?_
          refine lv_goto (tgt := 69) hx hb dX7_change_65 (by decide) ?_
          refine lv_iconst (v := (1 : Int32)) hx hb dX7_change_69 (by decide) ?_
          refine lv_iconst (v := (1 : Int32)) hx hb dX7_change_70 (by decide) ?_
          obtain ⟨r71, hr71, hM⟩ := h_b hM
          refine a_callV (σ' := aG r71.2) (v := (some (.int r71.1))) (As := fun ad => [.int (1 : Int32), .int (1 : Int32), .int (1 : Int32)]) (rest := []) (o := 109) C hw (c_X7_bad l hr71) k_X7_bad wM_X7_164 ⟨⟨rfl, rfl⟩, ⟨Nat.le_of_ble_eq_true rfl, Nat.le_of_ble_eq_true rfl⟩⟩ rfl (by decide) rfl rfl rfl hl rfl (Nat.le_of_ble_eq_true rfl) dX7_change_71 ⟨Nat.zero_le _, Nat.zero_le _⟩ (fun H locs hw => ?_)
          refine lv_if_eq (tgt := 79) hx hb dX7_change_74 (by decide) (fun hc => ?_) (fun hc => ?_)
          · replace hM := h_t hc hM
            refine lv_aload_n hx hb dX7_change_79 rfl (lv_at hl 1 rfl) ?_
            obtain ⟨r80, hr80, hM⟩ := h_b hM
            refine a_callV (σ' := aG r80) (v := none) (As := fun ad => []) (rest := []) (o := 109) C hw (c_X7_remembers l hr80) k_X7_remembers wM_X7_173 ⟨⟨rfl, rfl⟩, ⟨Nat.le_of_ble_eq_true rfl, Nat.le_of_ble_eq_true rfl⟩⟩ rfl (by decide) rfl rfl rfl hl rfl (Nat.le_of_ble_eq_true rfl) dX7_change_80 ⟨Nat.zero_le _, Nat.zero_le _⟩ (fun H locs hw => ?_)
            refine lv_aload_n hx hb dX7_change_83 rfl (lv_at hl 1 rfl) ?_
            refine a_getp (q := 112) (σ := aG r80) (o := 109) (T := TX7) (N := 20) C wU_X7 hw rfl (by decide) rfl 9 (by decide) rfl wF_X7_20 (aG_P rfl rfl) dX7_change_84 ?_
            refine lv_iconst (v := (4 : Int32)) hx hb dX7_change_87 (by decide) ?_
            refine lv_iload_n hx hb dX7_change_88 rfl (lv_at hl 2 rfl) ?_
            refine lv_iadd hx hb dX7_change_89 ?_
            obtain ⟨hi, hM⟩ := h_i hM
            refine a_iald (σ := aG r80) (o := 112) C hw rfl hi rfl dX7_change_90 ?_
            refine lv_istore (lv' := [(4, .int (gI r80 112 ((4 : Int32) + x1).toNatClampNeg)), (3, .int (20 : Int32)), (0, .ref (ad 109)), (1, .int x1), (2, .int x2)]) hx hb dX7_change_91 hl (by decide) rfl (fun ls hl => ?_)
            refine lv_aload_n hx hb dX7_change_93 rfl (lv_at hl 2 rfl) ?_
            refine a_getp (q := 112) (σ := aG r80) (o := 109) (T := TX7) (N := 20) C wU_X7 hw rfl (by decide) rfl 9 (by decide) rfl wF_X7_20 (aG_P rfl rfl) dX7_change_94 ?_
            refine lv_iconst (v := (4 : Int32)) hx hb dX7_change_97 (by decide) ?_
            refine lv_iload_n hx hb dX7_change_98 rfl (lv_at hl 3 rfl) ?_
            refine lv_iadd hx hb dX7_change_99 ?_
            refine lv_iload_n hx hb dX7_change_100 rfl (lv_at hl 4 rfl) ?_
            obtain ⟨hi, hM⟩ := h_i hM
            refine a_iast (σ := aG r80) (o := 112) C hw rfl hi rfl dX7_change_101 (fun H locs hw => ?_)
            have hw : aW D dA ad adV (aG (pI r80 112 ((4 : Int32) + x1).toNatClampNeg x2)) A s H locs := hw
            refine lv_iload hx hb dX7_change_102 (lv_at hl 0 rfl) ?_
            cases h_e hM
            exact a_iret C hw dX7_change_104
          · replace hM := h_f hc hM
            refine lv_iconst (v := (0 : Int32)) hx hb dX7_change_77 (by decide) ?_
            cases h_e hM
            exact a_iret C hw dX7_change_78
        · replace hM := h_f hc hM
          refine lv_iload_n hx hb dX7_change_46 rfl (lv_at hl 3 rfl) ?_
          refine lv_iload_n hx hb dX7_change_47 rfl (lv_at hl 2 rfl) ?_
          refine lv_iconst (v := (3 : Int32)) hx hb dX7_change_48 (by decide) ?_
          refine lv_icmp_ne (tgt := 56) hx hb dX7_change_49 (by decide) (fun hc => ?_) (fun hc => ?_)
          · replace hM := h_f hc hM
            refine lv_iconst (v := (0 : Int32)) hx hb dX7_change_56 (by decide) ?_
            refine lv_iload_n hx hb dX7_change_57 rfl (lv_at hl 0 rfl) ?_
            obtain ⟨r58, hr58, hM⟩ := h_b hM
            refine a_callS  (σ' := aG r58.2) (v := (some (.int r58.1))) (as := fun ad => [.int x2, .int (0 : Int32), .int (20 : Int32)]) (rest := [.ref (ad 109)]) C hw (c_X7_in l hr58) k_X7_in wM_X7_81 ⟨⟨rfl, rfl⟩, ⟨Nat.le_of_ble_eq_true rfl, Nat.le_of_ble_eq_true rfl⟩⟩ rfl hl rfl (Nat.le_of_ble_eq_true rfl) dX7_change_58 ⟨Nat.zero_le _, Nat.zero_le _⟩ (fun H locs hw => ?_)
            refine lv_if_ne (tgt := 68) hx hb dX7_change_61 (by decide) (fun hc => ?_) (fun hc => ?_)
            · replace hM := h_f hc hM
              refine lv_iconst (v := (0 : Int32)) hx hb dX7_change_68 (by decide) ?_
              refine lv_iconst (v := (1 : Int32)) hx hb dX7_change_69 (by decide) ?_
              refine lv_iconst (v := (1 : Int32)) hx hb dX7_change_70 (by decide) ?_
              obtain ⟨r71, hr71, hM⟩ := h_b hM
              refine a_callV (σ' := aG r71.2) (v := (some (.int r71.1))) (As := fun ad => [.int (0 : Int32), .int (1 : Int32), .int (1 : Int32)]) (rest := []) (o := 109) C hw (c_X7_bad l hr71) k_X7_bad wM_X7_164 ⟨⟨rfl, rfl⟩, ⟨Nat.le_of_ble_eq_true rfl, Nat.le_of_ble_eq_true rfl⟩⟩ rfl (by decide) rfl rfl rfl hl rfl (Nat.le_of_ble_eq_true rfl) dX7_change_71 ⟨Nat.zero_le _, Nat.zero_le _⟩ (fun H locs hw => ?_)
              refine lv_if_eq (tgt := 79) hx hb dX7_change_74 (by decide) (fun hc => ?_) (fun hc => ?_)
              · replace hM := h_t hc hM
                refine lv_aload_n hx hb dX7_change_79 rfl (lv_at hl 1 rfl) ?_
                obtain ⟨r80, hr80, hM⟩ := h_b hM
                refine a_callV (σ' := aG r80) (v := none) (As := fun ad => []) (rest := []) (o := 109) C hw (c_X7_remembers l hr80) k_X7_remembers wM_X7_173 ⟨⟨rfl, rfl⟩, ⟨Nat.le_of_ble_eq_true rfl, Nat.le_of_ble_eq_true rfl⟩⟩ rfl (by decide) rfl rfl rfl hl rfl (Nat.le_of_ble_eq_true rfl) dX7_change_80 ⟨Nat.zero_le _, Nat.zero_le _⟩ (fun H locs hw => ?_)
                refine lv_aload_n hx hb dX7_change_83 rfl (lv_at hl 1 rfl) ?_
                refine a_getp (q := 112) (σ := aG r80) (o := 109) (T := TX7) (N := 20) C wU_X7 hw rfl (by decide) rfl 9 (by decide) rfl wF_X7_20 (aG_P rfl rfl) dX7_change_84 ?_
                refine lv_iconst (v := (4 : Int32)) hx hb dX7_change_87 (by decide) ?_
                refine lv_iload_n hx hb dX7_change_88 rfl (lv_at hl 2 rfl) ?_
                refine lv_iadd hx hb dX7_change_89 ?_
                obtain ⟨hi, hM⟩ := h_i hM
                refine a_iald (σ := aG r80) (o := 112) C hw rfl hi rfl dX7_change_90 ?_
                refine lv_istore (lv' := [(4, .int (gI r80 112 ((4 : Int32) + x1).toNatClampNeg)), (3, .int (20 : Int32)), (0, .ref (ad 109)), (1, .int x1), (2, .int x2)]) hx hb dX7_change_91 hl (by decide) rfl (fun ls hl => ?_)
                refine lv_aload_n hx hb dX7_change_93 rfl (lv_at hl 2 rfl) ?_
                refine a_getp (q := 112) (σ := aG r80) (o := 109) (T := TX7) (N := 20) C wU_X7 hw rfl (by decide) rfl 9 (by decide) rfl wF_X7_20 (aG_P rfl rfl) dX7_change_94 ?_
                refine lv_iconst (v := (4 : Int32)) hx hb dX7_change_97 (by decide) ?_
                refine lv_iload_n hx hb dX7_change_98 rfl (lv_at hl 3 rfl) ?_
                refine lv_iadd hx hb dX7_change_99 ?_
                refine lv_iload_n hx hb dX7_change_100 rfl (lv_at hl 4 rfl) ?_
                obtain ⟨hi, hM⟩ := h_i hM
                refine a_iast (σ := aG r80) (o := 112) C hw rfl hi rfl dX7_change_101 (fun H locs hw => ?_)
                have hw : aW D dA ad adV (aG (pI r80 112 ((4 : Int32) + x1).toNatClampNeg x2)) A s H locs := hw
                refine lv_iload hx hb dX7_change_102 (lv_at hl 0 rfl) ?_
                cases h_e hM
                exact a_iret C hw dX7_change_104
              · replace hM := h_f hc hM
                refine lv_iconst (v := (0 : Int32)) hx hb dX7_change_77 (by decide) ?_
                cases h_e hM
                exact a_iret C hw dX7_change_78
            · replace hM := h_t hc hM
              refine lv_iconst (v := (1 : Int32)) hx hb dX7_change_64 (by decide) ?_
              refine lv_goto (tgt := 69) hx hb dX7_change_65 (by decide) ?_
              refine lv_iconst (v := (1 : Int32)) hx hb dX7_change_69 (by decide) ?_
              refine lv_iconst (v := (1 : Int32)) hx hb dX7_change_70 (by decide) ?_
              obtain ⟨r71, hr71, hM⟩ := h_b hM
              refine a_callV (σ' := aG r71.2) (v := (some (.int r71.1))) (As := fun ad => [.int (1 : Int32), .int (1 : Int32), .int (1 : Int32)]) (rest := []) (o := 109) C hw (c_X7_bad l hr71) k_X7_bad wM_X7_164 ⟨⟨rfl, rfl⟩, ⟨Nat.le_of_ble_eq_true rfl, Nat.le_of_ble_eq_true rfl⟩⟩ rfl (by decide) rfl rfl rfl hl rfl (Nat.le_of_ble_eq_true rfl) dX7_change_71 ⟨Nat.zero_le _, Nat.zero_le _⟩ (fun H locs hw => ?_)
              refine lv_if_eq (tgt := 79) hx hb dX7_change_74 (by decide) (fun hc => ?_) (fun hc => ?_)
              · replace hM := h_t hc hM
                refine lv_aload_n hx hb dX7_change_79 rfl (lv_at hl 1 rfl) ?_
                obtain ⟨r80, hr80, hM⟩ := h_b hM
                refine a_callV (σ' := aG r80) (v := none) (As := fun ad => []) (rest := []) (o := 109) C hw (c_X7_remembers l hr80) k_X7_remembers wM_X7_173 ⟨⟨rfl, rfl⟩, ⟨Nat.le_of_ble_eq_true rfl, Nat.le_of_ble_eq_true rfl⟩⟩ rfl (by decide) rfl rfl rfl hl rfl (Nat.le_of_ble_eq_true rfl) dX7_change_80 ⟨Nat.zero_le _, Nat.zero_le _⟩ (fun H locs hw => ?_)
                refine lv_aload_n hx hb dX7_change_83 rfl (lv_at hl 1 rfl) ?_
                refine a_getp (q := 112) (σ := aG r80) (o := 109) (T := TX7) (N := 20) C wU_X7 hw rfl (by decide) rfl 9 (by decide) rfl wF_X7_20 (aG_P rfl rfl) dX7_change_84 ?_
                refine lv_iconst (v := (4 : Int32)) hx hb dX7_change_87 (by decide) ?_
                refine lv_iload_n hx hb dX7_change_88 rfl (lv_at hl 2 rfl) ?_
                refine lv_iadd hx hb dX7_change_89 ?_
                obtain ⟨hi, hM⟩ := h_i hM
                refine a_iald (σ := aG r80) (o := 112) C hw rfl hi rfl dX7_change_90 ?_
                refine lv_istore (lv' := [(4, .int (gI r80 112 ((4 : Int32) + x1).toNatClampNeg)), (3, .int (20 : Int32)), (0, .ref (ad 109)), (1, .int x1), (2, .int x2)]) hx hb dX7_change_91 hl (by decide) rfl (fun ls hl => ?_)
                refine lv_aload_n hx hb dX7_change_93 rfl (lv_at hl 2 rfl) ?_
                refine a_getp (q := 112) (σ := aG r80) (o := 109) (T := TX7) (N := 20) C wU_X7 hw rfl (by decide) rfl 9 (by decide) rfl wF_X7_20 (aG_P rfl rfl) dX7_change_94 ?_
                refine lv_iconst (v := (4 : Int32)) hx hb dX7_change_97 (by decide) ?_
                refine lv_iload_n hx hb dX7_change_98 rfl (lv_at hl 3 rfl) ?_
                refine lv_iadd hx hb dX7_change_99 ?_
                refine lv_iload_n hx hb dX7_change_100 rfl (lv_at hl 4 rfl) ?_
                obtain ⟨hi, hM⟩ := h_i hM
                refine a_iast (σ := aG r80) (o := 112) C hw rfl hi rfl dX7_change_101 (fun H locs hw => ?_)
                have hw : aW D dA ad adV (aG (pI r80 112 ((4 : Int32) + x1).toNatClampNeg x2)) A s H locs := hw
                refine lv_iload hx hb dX7_change_102 (lv_at hl 0 rfl) ?_
                cases h_e hM
                exact a_iret C hw dX7_change_104
              · replace hM := h_f hc hM
                refine lv_iconst (v := (0 : Int32)) hx hb dX7_change_77 (by decide) ?_
                cases h_e hM
                exact a_iret C hw dX7_change_78
          · replace hM := h_t hc hM
            refine lv_iconst (v := (1 : Int32)) hx hb dX7_change_52 (by decide) ?_
            refine lv_goto (tgt := 57) hx hb dX7_change_53 (by decide) ?_
            refine lv_iload_n hx hb dX7_change_57 rfl (lv_at hl 0 rfl) ?_
            obtain ⟨r58, hr58, hM⟩ := h_b hM
            refine a_callS  (σ' := aG r58.2) (v := (some (.int r58.1))) (as := fun ad => [.int x2, .int (1 : Int32), .int (20 : Int32)]) (rest := [.ref (ad 109)]) C hw (c_X7_in l hr58) k_X7_in wM_X7_81 ⟨⟨rfl, rfl⟩, ⟨Nat.le_of_ble_eq_true rfl, Nat.le_of_ble_eq_true rfl⟩⟩ rfl hl rfl (Nat.le_of_ble_eq_true rfl) dX7_change_58 ⟨Nat.zero_le _, Nat.zero_le _⟩ (fun H locs hw => ?_)
            refine lv_if_ne (tgt := 68) hx hb dX7_change_61 (by decide) (fun hc => ?_) (fun hc => ?_)
            · replace hM := h_f hc hM
              refine lv_iconst (v := (0 : Int32)) hx hb dX7_change_68 (by decide) ?_
              refine lv_iconst (v := (1 : Int32)) hx hb dX7_change_69 (by decide) ?_
              refine lv_iconst (v := (1 : Int32)) hx hb dX7_change_70 (by decide) ?_
              obtain ⟨r71, hr71, hM⟩ := h_b hM
              refine a_callV (σ' := aG r71.2) (v := (some (.int r71.1))) (As := fun ad => [.int (0 : Int32), .int (1 : Int32), .int (1 : Int32)]) (rest := []) (o := 109) C hw (c_X7_bad l hr71) k_X7_bad wM_X7_164 ⟨⟨rfl, rfl⟩, ⟨Nat.le_of_ble_eq_true rfl, Nat.le_of_ble_eq_true rfl⟩⟩ rfl (by decide) rfl rfl rfl hl rfl (Nat.le_of_ble_eq_true rfl) dX7_change_71 ⟨Nat.zero_le _, Nat.zero_le _⟩ (fun H locs hw => ?_)
              refine lv_if_eq (tgt := 79) hx hb dX7_change_74 (by decide) (fun hc => ?_) (fun hc => ?_)
              · replace hM := h_t hc hM
                refine lv_aload_n hx hb dX7_change_79 rfl (lv_at hl 1 rfl) ?_
                obtain ⟨r80, hr80, hM⟩ := h_b hM
                refine a_callV (σ' := aG r80) (v := none) (As := fun ad => []) (rest := []) (o := 109) C hw (c_X7_remembers l hr80) k_X7_remembers wM_X7_173 ⟨⟨rfl, rfl⟩, ⟨Nat.le_of_ble_eq_true rfl, Nat.le_of_ble_eq_true rfl⟩⟩ rfl (by decide) rfl rfl rfl hl rfl (Nat.le_of_ble_eq_true rfl) dX7_change_80 ⟨Nat.zero_le _, Nat.zero_le _⟩ (fun H locs hw => ?_)
                refine lv_aload_n hx hb dX7_change_83 rfl (lv_at hl 1 rfl) ?_
                refine a_getp (q := 112) (σ := aG r80) (o := 109) (T := TX7) (N := 20) C wU_X7 hw rfl (by decide) rfl 9 (by decide) rfl wF_X7_20 (aG_P rfl rfl) dX7_change_84 ?_
                refine lv_iconst (v := (4 : Int32)) hx hb dX7_change_87 (by decide) ?_
                refine lv_iload_n hx hb dX7_change_88 rfl (lv_at hl 2 rfl) ?_
                refine lv_iadd hx hb dX7_change_89 ?_
                obtain ⟨hi, hM⟩ := h_i hM
                refine a_iald (σ := aG r80) (o := 112) C hw rfl hi rfl dX7_change_90 ?_
                refine lv_istore (lv' := [(4, .int (gI r80 112 ((4 : Int32) + x1).toNatClampNeg)), (3, .int (20 : Int32)), (0, .ref (ad 109)), (1, .int x1), (2, .int x2)]) hx hb dX7_change_91 hl (by decide) rfl (fun ls hl => ?_)
                refine lv_aload_n hx hb dX7_change_93 rfl (lv_at hl 2 rfl) ?_
                refine a_getp (q := 112) (σ := aG r80) (o := 109) (T := TX7) (N := 20) C wU_X7 hw rfl (by decide) rfl 9 (by decide) rfl wF_X7_20 (aG_P rfl rfl) dX7_change_94 ?_
                refine lv_iconst (v := (4 : Int32)) hx hb dX7_change_97 (by decide) ?_
                refine lv_iload_n hx hb dX7_change_98 rfl (lv_at hl 3 rfl) ?_
                refine lv_iadd hx hb dX7_change_99 ?_
                refine lv_iload_n hx hb dX7_change_100 rfl (lv_at hl 4 rfl) ?_
                obtain ⟨hi, hM⟩ := h_i hM
                refine a_iast (σ := aG r80) (o := 112) C hw rfl hi rfl dX7_change_101 (fun H locs hw => ?_)
                have hw : aW D dA ad adV (aG (pI r80 112 ((4 : Int32) + x1).toNatClampNeg x2)) A s H locs := hw
                refine lv_iload hx hb dX7_change_102 (lv_at hl 0 rfl) ?_
                cases h_e hM
                exact a_iret C hw dX7_change_104
              · replace hM := h_f hc hM
                refine lv_iconst (v := (0 : Int32)) hx hb dX7_change_77 (by decide) ?_
                cases h_e hM
                exact a_iret C hw dX7_change_78
            · replace hM := h_t hc hM
              refine lv_iconst (v := (1 : Int32)) hx hb dX7_change_64 (by decide) ?_
              refine lv_goto (tgt := 69) hx hb dX7_change_65 (by decide) ?_
              refine lv_iconst (v := (1 : Int32)) hx hb dX7_change_69 (by decide) ?_
              refine lv_iconst (v := (1 : Int32)) hx hb dX7_change_70 (by decide) ?_
              obtain ⟨r71, hr71, hM⟩ := h_b hM
              refine a_callV (σ' := aG r71.2) (v := (some (.int r71.1))) (As := fun ad => [.int (1 : Int32), .int (1 : Int32), .int (1 : Int32)]) (rest := []) (o := 109) C hw (c_X7_bad l hr71) k_X7_bad wM_X7_164 ⟨⟨rfl, rfl⟩, ⟨Nat.le_of_ble_eq_true rfl, Nat.le_of_ble_eq_true rfl⟩⟩ rfl (by decide) rfl rfl rfl hl rfl (Nat.le_of_ble_eq_true rfl) dX7_change_71 ⟨Nat.zero_le _, Nat.zero_le _⟩ (fun H locs hw => ?_)
              refine lv_if_eq (tgt := 79) hx hb dX7_change_74 (by decide) (fun hc => ?_) (fun hc => ?_)
              · replace hM := h_t hc hM
                refine lv_aload_n hx hb dX7_change_79 rfl (lv_at hl 1 rfl) ?_
                obtain ⟨r80, hr80, hM⟩ := h_b hM
                refine a_callV (σ' := aG r80) (v := none) (As := fun ad => []) (rest := []) (o := 109) C hw (c_X7_remembers l hr80) k_X7_remembers wM_X7_173 ⟨⟨rfl, rfl⟩, ⟨Nat.le_of_ble_eq_true rfl, Nat.le_of_ble_eq_true rfl⟩⟩ rfl (by decide) rfl rfl rfl hl rfl (Nat.le_of_ble_eq_true rfl) dX7_change_80 ⟨Nat.zero_le _, Nat.zero_le _⟩ (fun H locs hw => ?_)
                refine lv_aload_n hx hb dX7_change_83 rfl (lv_at hl 1 rfl) ?_
                refine a_getp (q := 112) (σ := aG r80) (o := 109) (T := TX7) (N := 20) C wU_X7 hw rfl (by decide) rfl 9 (by decide) rfl wF_X7_20 (aG_P rfl rfl) dX7_change_84 ?_
                refine lv_iconst (v := (4 : Int32)) hx hb dX7_change_87 (by decide) ?_
                refine lv_iload_n hx hb dX7_change_88 rfl (lv_at hl 2 rfl) ?_
                refine lv_iadd hx hb dX7_change_89 ?_
                obtain ⟨hi, hM⟩ := h_i hM
                refine a_iald (σ := aG r80) (o := 112) C hw rfl hi rfl dX7_change_90 ?_
                refine lv_istore (lv' := [(4, .int (gI r80 112 ((4 : Int32) + x1).toNatClampNeg)), (3, .int (20 : Int32)), (0, .ref (ad 109)), (1, .int x1), (2, .int x2)]) hx hb dX7_change_91 hl (by decide) rfl (fun ls hl => ?_)
                refine lv_aload_n hx hb dX7_change_93 rfl (lv_at hl 2 rfl) ?_
                refine a_getp (q := 112) (σ := aG r80) (o := 109) (T := TX7) (N := 20) C wU_X7 hw rfl (by decide) rfl 9 (by decide) rfl wF_X7_20 (aG_P rfl rfl) dX7_change_94 ?_
                refine lv_iconst (v := (4 : Int32)) hx hb dX7_change_97 (by decide) ?_
                refine lv_iload_n hx hb dX7_change_98 rfl (lv_at hl 3 rfl) ?_
                refine lv_iadd hx hb dX7_change_99 ?_
                refine lv_iload_n hx hb dX7_change_100 rfl (lv_at hl 4 rfl) ?_
                obtain ⟨hi, hM⟩ := h_i hM
                refine a_iast (σ := aG r80) (o := 112) C hw rfl hi rfl dX7_change_101 (fun H locs hw => ?_)
                have hw : aW D dA ad adV (aG (pI r80 112 ((4 : Int32) + x1).toNatClampNeg x2)) A s H locs := hw
                refine lv_iload hx hb dX7_change_102 (lv_at hl 0 rfl) ?_
                cases h_e hM
                exact a_iret C hw dX7_change_104
              · replace hM := h_f hc hM
                refine lv_iconst (v := (0 : Int32)) hx hb dX7_change_77 (by decide) ?_
                cases h_e hM
                exact a_iret C hw dX7_change_78
    · replace hM := h_t hc hM
      refine lv_bipush (v := (120 : Int32)) hx hb dX7_change_18 (by decide) ?_
      refine lv_goto (tgt := 35) hx hb dX7_change_20 (by decide) ?_
      refine lv_istore_n (lv' := [(3, .int (120 : Int32)), (0, .ref (ad 109)), (1, .int x1), (2, .int x2)]) hx hb dX7_change_35 rfl hl (by decide) rfl (fun ls hl => ?_)
      refine lv_aload_n hx hb dX7_change_36 rfl (lv_at hl 1 rfl) ?_
      refine lv_iload_n hx hb dX7_change_37 rfl (lv_at hl 2 rfl) ?_
      refine lv_iconst (v := (0 : Int32)) hx hb dX7_change_38 (by decide) ?_
      refine lv_iconst (v := (3 : Int32)) hx hb dX7_change_39 (by decide) ?_
      obtain ⟨r40, hr40, hM⟩ := h_b hM
      refine a_callS  (σ' := aG r40.2) (v := (some (.int r40.1))) (as := fun ad => [.int x1, .int (0 : Int32), .int (3 : Int32)]) (rest := [.ref (ad 109)]) C hw (c_X7_in l hr40) k_X7_in wM_X7_81 ⟨⟨rfl, rfl⟩, ⟨Nat.le_of_ble_eq_true rfl, Nat.le_of_ble_eq_true rfl⟩⟩ rfl hl rfl (Nat.le_of_ble_eq_true rfl) dX7_change_40 ⟨Nat.zero_le _, Nat.zero_le _⟩ (fun H locs hw => ?_)
      refine lv_if_eq (tgt := 64) hx hb dX7_change_43 (by decide) (fun hc => ?_) (fun hc => ?_)
      · replace hM := h_t hc hM
        refine lv_iconst (v := (1 : Int32)) hx hb dX7_change_64 (by decide) ?_
        refine lv_goto (tgt := 69) hx hb dX7_change_65 (by decide) ?_
        refine lv_iconst (v := (1 : Int32)) hx hb dX7_change_69 (by decide) ?_
        refine lv_iconst (v := (1 : Int32)) hx hb dX7_change_70 (by decide) ?_
        obtain ⟨r71, hr71, hM⟩ := h_b hM
        refine a_callV (σ' := aG r71.2) (v := (some (.int r71.1))) (As := fun ad => [.int (1 : Int32), .int (1 : Int32), .int (1 : Int32)]) (rest := []) (o := 109) C hw (c_X7_bad l hr71) k_X7_bad wM_X7_164 ⟨⟨rfl, rfl⟩, ⟨Nat.le_of_ble_eq_true rfl, Nat.le_of_ble_eq_true rfl⟩⟩ rfl (by decide) rfl rfl rfl hl rfl (Nat.le_of_ble_eq_true rfl) dX7_change_71 ⟨Nat.zero_le _, Nat.zero_le _⟩ (fun H locs hw => ?_)
        refine lv_if_eq (tgt := 79) hx hb dX7_change_74 (by decide) (fun hc => ?_) (fun hc => ?_)
        · replace hM := h_t hc hM
          refine lv_aload_n hx hb dX7_change_79 rfl (lv_at hl 1 rfl) ?_
          obtain ⟨r80, hr80, hM⟩ := h_b hM
          refine a_callV (σ' := aG r80) (v := none) (As := fun ad => []) (rest := []) (o := 109) C hw (c_X7_remembers l hr80) k_X7_remembers wM_X7_173 ⟨⟨rfl, rfl⟩, ⟨Nat.le_of_ble_eq_true rfl, Nat.le_of_ble_eq_true rfl⟩⟩ rfl (by decide) rfl rfl rfl hl rfl (Nat.le_of_ble_eq_true rfl) dX7_change_80 ⟨Nat.zero_le _, Nat.zero_le _⟩ (fun H locs hw => ?_)
          refine lv_aload_n hx hb dX7_change_83 rfl (lv_at hl 1 rfl) ?_
          refine a_getp (q := 112) (σ := aG r80) (o := 109) (T := TX7) (N := 20) C wU_X7 hw rfl (by decide) rfl 9 (by decide) rfl wF_X7_20 (aG_P rfl rfl) dX7_change_84 ?_
          refine lv_iconst (v := (4 : Int32)) hx hb dX7_change_87 (by decide) ?_
          refine lv_iload_n hx hb dX7_change_88 rfl (lv_at hl 2 rfl) ?_
          refine lv_iadd hx hb dX7_change_89 ?_
          obtain ⟨hi, hM⟩ := h_i hM
          refine a_iald (σ := aG r80) (o := 112) C hw rfl hi rfl dX7_change_90 ?_
          refine lv_istore (lv' := [(4, .int (gI r80 112 ((4 : Int32) + x1).toNatClampNeg)), (3, .int (120 : Int32)), (0, .ref (ad 109)), (1, .int x1), (2, .int x2)]) hx hb dX7_change_91 hl (by decide) rfl (fun ls hl => ?_)
          refine lv_aload_n hx hb dX7_change_93 rfl (lv_at hl 2 rfl) ?_
          refine a_getp (q := 112) (σ := aG r80) (o := 109) (T := TX7) (N := 20) C wU_X7 hw rfl (by decide) rfl 9 (by decide) rfl wF_X7_20 (aG_P rfl rfl) dX7_change_94 ?_
          refine lv_iconst (v := (4 : Int32)) hx hb dX7_change_97 (by decide) ?_
          refine lv_iload_n hx hb dX7_change_98 rfl (lv_at hl 3 rfl) ?_
          refine lv_iadd hx hb dX7_change_99 ?_
          refine lv_iload_n hx hb dX7_change_100 rfl (lv_at hl 4 rfl) ?_
          obtain ⟨hi, hM⟩ := h_i hM
          refine a_iast (σ := aG r80) (o := 112) C hw rfl hi rfl dX7_change_101 (fun H locs hw => ?_)
          have hw : aW D dA ad adV (aG (pI r80 112 ((4 : Int32) + x1).toNatClampNeg x2)) A s H locs := hw
          refine lv_iload hx hb dX7_change_102 (lv_at hl 0 rfl) ?_
          cases h_e hM
          exact a_iret C hw dX7_change_104
        · replace hM := h_f hc hM
          refine lv_iconst (v := (0 : Int32)) hx hb dX7_change_77 (by decide) ?_
          cases h_e hM
          exact a_iret C hw dX7_change_78
      · replace hM := h_f hc hM
        refine lv_iload_n hx hb dX7_change_46 rfl (lv_at hl 3 rfl) ?_
        refine lv_iload_n hx hb dX7_change_47 rfl (lv_at hl 2 rfl) ?_
        refine lv_iconst (v := (3 : Int32)) hx hb dX7_change_48 (by decide) ?_
        refine lv_icmp_ne (tgt := 56) hx hb dX7_change_49 (by decide) (fun hc => ?_) (fun hc => ?_)
        · replace hM := h_f hc hM
          refine lv_iconst (v := (0 : Int32)) hx hb dX7_change_56 (by decide) ?_
          refine lv_iload_n hx hb dX7_change_57 rfl (lv_at hl 0 rfl) ?_
          obtain ⟨r58, hr58, hM⟩ := h_b hM
          refine a_callS  (σ' := aG r58.2) (v := (some (.int r58.1))) (as := fun ad => [.int x2, .int (0 : Int32), .int (120 : Int32)]) (rest := [.ref (ad 109)]) C hw (c_X7_in l hr58) k_X7_in wM_X7_81 ⟨⟨rfl, rfl⟩, ⟨Nat.le_of_ble_eq_true rfl, Nat.le_of_ble_eq_true rfl⟩⟩ rfl hl rfl (Nat.le_of_ble_eq_true rfl) dX7_change_58 ⟨Nat.zero_le _, Nat.zero_le _⟩ (fun H locs hw => ?_)
          refine lv_if_ne (tgt := 68) hx hb dX7_change_61 (by decide) (fun hc => ?_) (fun hc => ?_)
          · replace hM := h_f hc hM
            refine lv_iconst (v := (0 : Int32)) hx hb dX7_change_68 (by decide) ?_
            refine lv_iconst (v := (1 : Int32)) hx hb dX7_change_69 (by decide) ?_
            refine lv_iconst (v := (1 : Int32)) hx hb dX7_change_70 (by decide) ?_
            obtain ⟨r71, hr71, hM⟩ := h_b hM
            refine a_callV (σ' := aG r71.2) (v := (some (.int r71.1))) (As := fun ad => [.int (0 : Int32), .int (1 : Int32), .int (1 : Int32)]) (rest := []) (o := 109) C hw (c_X7_bad l hr71) k_X7_bad wM_X7_164 ⟨⟨rfl, rfl⟩, ⟨Nat.le_of_ble_eq_true rfl, Nat.le_of_ble_eq_true rfl⟩⟩ rfl (by decide) rfl rfl rfl hl rfl (Nat.le_of_ble_eq_true rfl) dX7_change_71 ⟨Nat.zero_le _, Nat.zero_le _⟩ (fun H locs hw => ?_)
            refine lv_if_eq (tgt := 79) hx hb dX7_change_74 (by decide) (fun hc => ?_) (fun hc => ?_)
            · replace hM := h_t hc hM
              refine lv_aload_n hx hb dX7_change_79 rfl (lv_at hl 1 rfl) ?_
              obtain ⟨r80, hr80, hM⟩ := h_b hM
              refine a_callV (σ' := aG r80) (v := none) (As := fun ad => []) (rest := []) (o := 109) C hw (c_X7_remembers l hr80) k_X7_remembers wM_X7_173 ⟨⟨rfl, rfl⟩, ⟨Nat.le_of_ble_eq_true rfl, Nat.le_of_ble_eq_true rfl⟩⟩ rfl (by decide) rfl rfl rfl hl rfl (Nat.le_of_ble_eq_true rfl) dX7_change_80 ⟨Nat.zero_le _, Nat.zero_le _⟩ (fun H locs hw => ?_)
              refine lv_aload_n hx hb dX7_change_83 rfl (lv_at hl 1 rfl) ?_
              refine a_getp (q := 112) (σ := aG r80) (o := 109) (T := TX7) (N := 20) C wU_X7 hw rfl (by decide) rfl 9 (by decide) rfl wF_X7_20 (aG_P rfl rfl) dX7_change_84 ?_
              refine lv_iconst (v := (4 : Int32)) hx hb dX7_change_87 (by decide) ?_
              refine lv_iload_n hx hb dX7_change_88 rfl (lv_at hl 2 rfl) ?_
              refine lv_iadd hx hb dX7_change_89 ?_
              obtain ⟨hi, hM⟩ := h_i hM
              refine a_iald (σ := aG r80) (o := 112) C hw rfl hi rfl dX7_change_90 ?_
              refine lv_istore (lv' := [(4, .int (gI r80 112 ((4 : Int32) + x1).toNatClampNeg)), (3, .int (120 : Int32)), (0, .ref (ad 109)), (1, .int x1), (2, .int x2)]) hx hb dX7_change_91 hl (by decide) rfl (fun ls hl => ?_)
              refine lv_aload_n hx hb dX7_change_93 rfl (lv_at hl 2 rfl) ?_
              refine a_getp (q := 112) (σ := aG r80) (o := 109) (T := TX7) (N := 20) C wU_X7 hw rfl (by decide) rfl 9 (by decide) rfl wF_X7_20 (aG_P rfl rfl) dX7_change_94 ?_
              refine lv_iconst (v := (4 : Int32)) hx hb dX7_change_97 (by decide) ?_
              refine lv_iload_n hx hb dX7_change_98 rfl (lv_at hl 3 rfl) ?_
              refine lv_iadd hx hb dX7_change_99 ?_
              refine lv_iload_n hx hb dX7_change_100 rfl (lv_at hl 4 rfl) ?_
              obtain ⟨hi, hM⟩ := h_i hM
              refine a_iast (σ := aG r80) (o := 112) C hw rfl hi rfl dX7_change_101 (fun H locs hw => ?_)
              have hw : aW D dA ad adV (aG (pI r80 112 ((4 : Int32) + x1).toNatClampNeg x2)) A s H locs := hw
              refine lv_iload hx hb dX7_change_102 (lv_at hl 0 rfl) ?_
              cases h_e hM
              exact a_iret C hw dX7_change_104
            · replace hM := h_f hc hM
              refine lv_iconst (v := (0 : Int32)) hx hb dX7_change_77 (by decide) ?_
              cases h_e hM
              exact a_iret C hw dX7_change_78
          · replace hM := h_t hc hM
            refine lv_iconst (v := (1 : Int32)) hx hb dX7_change_64 (by decide) ?_
            refine lv_goto (tgt := 69) hx hb dX7_change_65 (by decide) ?_
            refine lv_iconst (v := (1 : Int32)) hx hb dX7_change_69 (by decide) ?_
            refine lv_iconst (v := (1 : Int32)) hx hb dX7_change_70 (by decide) ?_
            obtain ⟨r71, hr71, hM⟩ := h_b hM
            refine a_callV (σ' := aG r71.2) (v := (some (.int r71.1))) (As := fun ad => [.int (1 : Int32), .int (1 : Int32), .int (1 : Int32)]) (rest := []) (o := 109) C hw (c_X7_bad l hr71) k_X7_bad wM_X7_164 ⟨⟨rfl, rfl⟩, ⟨Nat.le_of_ble_eq_true rfl, Nat.le_of_ble_eq_true rfl⟩⟩ rfl (by decide) rfl rfl rfl hl rfl (Nat.le_of_ble_eq_true rfl) dX7_change_71 ⟨Nat.zero_le _, Nat.zero_le _⟩ (fun H locs hw => ?_)
            refine lv_if_eq (tgt := 79) hx hb dX7_change_74 (by decide) (fun hc => ?_) (fun hc => ?_)
            · replace hM := h_t hc hM
              refine lv_aload_n hx hb dX7_change_79 rfl (lv_at hl 1 rfl) ?_
              obtain ⟨r80, hr80, hM⟩ := h_b hM
              refine a_callV (σ' := aG r80) (v := none) (As := fun ad => []) (rest := []) (o := 109) C hw (c_X7_remembers l hr80) k_X7_remembers wM_X7_173 ⟨⟨rfl, rfl⟩, ⟨Nat.le_of_ble_eq_true rfl, Nat.le_of_ble_eq_true rfl⟩⟩ rfl (by decide) rfl rfl rfl hl rfl (Nat.le_of_ble_eq_true rfl) dX7_change_80 ⟨Nat.zero_le _, Nat.zero_le _⟩ (fun H locs hw => ?_)
              refine lv_aload_n hx hb dX7_change_83 rfl (lv_at hl 1 rfl) ?_
              refine a_getp (q := 112) (σ := aG r80) (o := 109) (T := TX7) (N := 20) C wU_X7 hw rfl (by decide) rfl 9 (by decide) rfl wF_X7_20 (aG_P rfl rfl) dX7_change_84 ?_
              refine lv_iconst (v := (4 : Int32)) hx hb dX7_change_87 (by decide) ?_
              refine lv_iload_n hx hb dX7_change_88 rfl (lv_at hl 2 rfl) ?_
              refine lv_iadd hx hb dX7_change_89 ?_
              obtain ⟨hi, hM⟩ := h_i hM
              refine a_iald (σ := aG r80) (o := 112) C hw rfl hi rfl dX7_change_90 ?_
              refine lv_istore (lv' := [(4, .int (gI r80 112 ((4 : Int32) + x1).toNatClampNeg)), (3, .int (120 : Int32)), (0, .ref (ad 109)), (1, .int x1), (2, .int x2)]) hx hb dX7_change_91 hl (by decide) rfl (fun ls hl => ?_)
              refine lv_aload_n hx hb dX7_change_93 rfl (lv_at hl 2 rfl) ?_
              refine a_getp (q := 112) (σ := aG r80) (o := 109) (T := TX7) (N := 20) C wU_X7 hw rfl (by decide) rfl 9 (by decide) rfl wF_X7_20 (aG_P rfl rfl) dX7_change_94 ?_
              refine lv_iconst (v := (4 : Int32)) hx hb dX7_change_97 (by decide) ?_
              refine lv_iload_n hx hb dX7_change_98 rfl (lv_at hl 3 rfl) ?_
              refine lv_iadd hx hb dX7_change_99 ?_
              refine lv_iload_n hx hb dX7_change_100 rfl (lv_at hl 4 rfl) ?_
              obtain ⟨hi, hM⟩ := h_i hM
              refine a_iast (σ := aG r80) (o := 112) C hw rfl hi rfl dX7_change_101 (fun H locs hw => ?_)
              have hw : aW D dA ad adV (aG (pI r80 112 ((4 : Int32) + x1).toNatClampNeg x2)) A s H locs := hw
              refine lv_iload hx hb dX7_change_102 (lv_at hl 0 rfl) ?_
              cases h_e hM
              exact a_iret C hw dX7_change_104
            · replace hM := h_f hc hM
              refine lv_iconst (v := (0 : Int32)) hx hb dX7_change_77 (by decide) ?_
              cases h_e hM
              exact a_iret C hw dX7_change_78
        · replace hM := h_t hc hM
          refine lv_iconst (v := (1 : Int32)) hx hb dX7_change_52 (by decide) ?_
          refine lv_goto (tgt := 57) hx hb dX7_change_53 (by decide) ?_
          refine lv_iload_n hx hb dX7_change_57 rfl (lv_at hl 0 rfl) ?_
          obtain ⟨r58, hr58, hM⟩ := h_b hM
          refine a_callS  (σ' := aG r58.2) (v := (some (.int r58.1))) (as := fun ad => [.int x2, .int (1 : Int32), .int (120 : Int32)]) (rest := [.ref (ad 109)]) C hw (c_X7_in l hr58) k_X7_in wM_X7_81 ⟨⟨rfl, rfl⟩, ⟨Nat.le_of_ble_eq_true rfl, Nat.le_of_ble_eq_true rfl⟩⟩ rfl hl rfl (Nat.le_of_ble_eq_true rfl) dX7_change_58 ⟨Nat.zero_le _, Nat.zero_le _⟩ (fun H locs hw => ?_)
          refine lv_if_ne (tgt := 68) hx hb dX7_change_61 (by decide) (fun hc => ?_) (fun hc => ?_)
          · replace hM := h_f hc hM
            refine lv_iconst (v := (0 : Int32)) hx hb dX7_change_68 (by decide) ?_
            refine lv_iconst (v := (1 : Int32)) hx hb dX7_change_69 (by decide) ?_
            refine lv_iconst (v := (1 : Int32)) hx hb dX7_change_70 (by decide) ?_
            obtain ⟨r71, hr71, hM⟩ := h_b hM
            refine a_callV (σ' := aG r71.2) (v := (some (.int r71.1))) (As := fun ad => [.int (0 : Int32), .int (1 : Int32), .int (1 : Int32)]) (rest := []) (o := 109) C hw (c_X7_bad l hr71) k_X7_bad wM_X7_164 ⟨⟨rfl, rfl⟩, ⟨Nat.le_of_ble_eq_true rfl, Nat.le_of_ble_eq_true rfl⟩⟩ rfl (by decide) rfl rfl rfl hl rfl (Nat.le_of_ble_eq_true rfl) dX7_change_71 ⟨Nat.zero_le _, Nat.zero_le _⟩ (fun H locs hw => ?_)
            refine lv_if_eq (tgt := 79) hx hb dX7_change_74 (by decide) (fun hc => ?_) (fun hc => ?_)
            · replace hM := h_t hc hM
              refine lv_aload_n hx hb dX7_change_79 rfl (lv_at hl 1 rfl) ?_
              obtain ⟨r80, hr80, hM⟩ := h_b hM
              refine a_callV (σ' := aG r80) (v := none) (As := fun ad => []) (rest := []) (o := 109) C hw (c_X7_remembers l hr80) k_X7_remembers wM_X7_173 ⟨⟨rfl, rfl⟩, ⟨Nat.le_of_ble_eq_true rfl, Nat.le_of_ble_eq_true rfl⟩⟩ rfl (by decide) rfl rfl rfl hl rfl (Nat.le_of_ble_eq_true rfl) dX7_change_80 ⟨Nat.zero_le _, Nat.zero_le _⟩ (fun H locs hw => ?_)
              refine lv_aload_n hx hb dX7_change_83 rfl (lv_at hl 1 rfl) ?_
              refine a_getp (q := 112) (σ := aG r80) (o := 109) (T := TX7) (N := 20) C wU_X7 hw rfl (by decide) rfl 9 (by decide) rfl wF_X7_20 (aG_P rfl rfl) dX7_change_84 ?_
              refine lv_iconst (v := (4 : Int32)) hx hb dX7_change_87 (by decide) ?_
              refine lv_iload_n hx hb dX7_change_88 rfl (lv_at hl 2 rfl) ?_
              refine lv_iadd hx hb dX7_change_89 ?_
              obtain ⟨hi, hM⟩ := h_i hM
              refine a_iald (σ := aG r80) (o := 112) C hw rfl hi rfl dX7_change_90 ?_
              refine lv_istore (lv' := [(4, .int (gI r80 112 ((4 : Int32) + x1).toNatClampNeg)), (3, .int (120 : Int32)), (0, .ref (ad 109)), (1, .int x1), (2, .int x2)]) hx hb dX7_change_91 hl (by decide) rfl (fun ls hl => ?_)
              refine lv_aload_n hx hb dX7_change_93 rfl (lv_at hl 2 rfl) ?_
              refine a_getp (q := 112) (σ := aG r80) (o := 109) (T := TX7) (N := 20) C wU_X7 hw rfl (by decide) rfl 9 (by decide) rfl wF_X7_20 (aG_P rfl rfl) dX7_change_94 ?_
              refine lv_iconst (v := (4 : Int32)) hx hb dX7_change_97 (by decide) ?_
              refine lv_iload_n hx hb dX7_change_98 rfl (lv_at hl 3 rfl) ?_
              refine lv_iadd hx hb dX7_change_99 ?_
              refine lv_iload_n hx hb dX7_change_100 rfl (lv_at hl 4 rfl) ?_
              obtain ⟨hi, hM⟩ := h_i hM
              refine a_iast (σ := aG r80) (o := 112) C hw rfl hi rfl dX7_change_101 (fun H locs hw => ?_)
              have hw : aW D dA ad adV (aG (pI r80 112 ((4 : Int32) + x1).toNatClampNeg x2)) A s H locs := hw
              refine lv_iload hx hb dX7_change_102 (lv_at hl 0 rfl) ?_
              cases h_e hM
              exact a_iret C hw dX7_change_104
            · replace hM := h_f hc hM
              refine lv_iconst (v := (0 : Int32)) hx hb dX7_change_77 (by decide) ?_
              cases h_e hM
              exact a_iret C hw dX7_change_78
          · replace hM := h_t hc hM
            refine lv_iconst (v := (1 : Int32)) hx hb dX7_change_64 (by decide) ?_
            refine lv_goto (tgt := 69) hx hb dX7_change_65 (by decide) ?_
            refine lv_iconst (v := (1 : Int32)) hx hb dX7_change_69 (by decide) ?_
            refine lv_iconst (v := (1 : Int32)) hx hb dX7_change_70 (by decide) ?_
            obtain ⟨r71, hr71, hM⟩ := h_b hM
            refine a_callV (σ' := aG r71.2) (v := (some (.int r71.1))) (As := fun ad => [.int (1 : Int32), .int (1 : Int32), .int (1 : Int32)]) (rest := []) (o := 109) C hw (c_X7_bad l hr71) k_X7_bad wM_X7_164 ⟨⟨rfl, rfl⟩, ⟨Nat.le_of_ble_eq_true rfl, Nat.le_of_ble_eq_true rfl⟩⟩ rfl (by decide) rfl rfl rfl hl rfl (Nat.le_of_ble_eq_true rfl) dX7_change_71 ⟨Nat.zero_le _, Nat.zero_le _⟩ (fun H locs hw => ?_)
            refine lv_if_eq (tgt := 79) hx hb dX7_change_74 (by decide) (fun hc => ?_) (fun hc => ?_)
            · replace hM := h_t hc hM
              refine lv_aload_n hx hb dX7_change_79 rfl (lv_at hl 1 rfl) ?_
              obtain ⟨r80, hr80, hM⟩ := h_b hM
              refine a_callV (σ' := aG r80) (v := none) (As := fun ad => []) (rest := []) (o := 109) C hw (c_X7_remembers l hr80) k_X7_remembers wM_X7_173 ⟨⟨rfl, rfl⟩, ⟨Nat.le_of_ble_eq_true rfl, Nat.le_of_ble_eq_true rfl⟩⟩ rfl (by decide) rfl rfl rfl hl rfl (Nat.le_of_ble_eq_true rfl) dX7_change_80 ⟨Nat.zero_le _, Nat.zero_le _⟩ (fun H locs hw => ?_)
              refine lv_aload_n hx hb dX7_change_83 rfl (lv_at hl 1 rfl) ?_
              refine a_getp (q := 112) (σ := aG r80) (o := 109) (T := TX7) (N := 20) C wU_X7 hw rfl (by decide) rfl 9 (by decide) rfl wF_X7_20 (aG_P rfl rfl) dX7_change_84 ?_
              refine lv_iconst (v := (4 : Int32)) hx hb dX7_change_87 (by decide) ?_
              refine lv_iload_n hx hb dX7_change_88 rfl (lv_at hl 2 rfl) ?_
              refine lv_iadd hx hb dX7_change_89 ?_
              obtain ⟨hi, hM⟩ := h_i hM
              refine a_iald (σ := aG r80) (o := 112) C hw rfl hi rfl dX7_change_90 ?_
              refine lv_istore (lv' := [(4, .int (gI r80 112 ((4 : Int32) + x1).toNatClampNeg)), (3, .int (120 : Int32)), (0, .ref (ad 109)), (1, .int x1), (2, .int x2)]) hx hb dX7_change_91 hl (by decide) rfl (fun ls hl => ?_)
              refine lv_aload_n hx hb dX7_change_93 rfl (lv_at hl 2 rfl) ?_
              refine a_getp (q := 112) (σ := aG r80) (o := 109) (T := TX7) (N := 20) C wU_X7 hw rfl (by decide) rfl 9 (by decide) rfl wF_X7_20 (aG_P rfl rfl) dX7_change_94 ?_
              refine lv_iconst (v := (4 : Int32)) hx hb dX7_change_97 (by decide) ?_
              refine lv_iload_n hx hb dX7_change_98 rfl (lv_at hl 3 rfl) ?_
              refine lv_iadd hx hb dX7_change_99 ?_
              refine lv_iload_n hx hb dX7_change_100 rfl (lv_at hl 4 rfl) ?_
              obtain ⟨hi, hM⟩ := h_i hM
              refine a_iast (σ := aG r80) (o := 112) C hw rfl hi rfl dX7_change_101 (fun H locs hw => ?_)
              have hw : aW D dA ad adV (aG (pI r80 112 ((4 : Int32) + x1).toNatClampNeg x2)) A s H locs := hw
              refine lv_iload hx hb dX7_change_102 (lv_at hl 0 rfl) ?_
              cases h_e hM
              exact a_iret C hw dX7_change_104
            · replace hM := h_f hc hM
              refine lv_iconst (v := (0 : Int32)) hx hb dX7_change_77 (by decide) ?_
              cases h_e hM
              exact a_iret C hw dX7_change_78
  · replace hM := h_t hc hM
    refine lv_iconst (v := (5 : Int32)) hx hb dX7_change_9 (by decide) ?_
    refine lv_goto (tgt := 35) hx hb dX7_change_10 (by decide) ?_
    refine lv_istore_n (lv' := [(3, .int (5 : Int32)), (0, .ref (ad 109)), (1, .int x1), (2, .int x2)]) hx hb dX7_change_35 rfl hl (by decide) rfl (fun ls hl => ?_)
    refine lv_aload_n hx hb dX7_change_36 rfl (lv_at hl 1 rfl) ?_
    refine lv_iload_n hx hb dX7_change_37 rfl (lv_at hl 2 rfl) ?_
    refine lv_iconst (v := (0 : Int32)) hx hb dX7_change_38 (by decide) ?_
    refine lv_iconst (v := (3 : Int32)) hx hb dX7_change_39 (by decide) ?_
    obtain ⟨r40, hr40, hM⟩ := h_b hM
    refine a_callS  (σ' := aG r40.2) (v := (some (.int r40.1))) (as := fun ad => [.int x1, .int (0 : Int32), .int (3 : Int32)]) (rest := [.ref (ad 109)]) C hw (c_X7_in l hr40) k_X7_in wM_X7_81 ⟨⟨rfl, rfl⟩, ⟨Nat.le_of_ble_eq_true rfl, Nat.le_of_ble_eq_true rfl⟩⟩ rfl hl rfl (Nat.le_of_ble_eq_true rfl) dX7_change_40 ⟨Nat.zero_le _, Nat.zero_le _⟩ (fun H locs hw => ?_)
    refine lv_if_eq (tgt := 64) hx hb dX7_change_43 (by decide) (fun hc => ?_) (fun hc => ?_)
    · replace hM := h_t hc hM
      refine lv_iconst (v := (1 : Int32)) hx hb dX7_change_64 (by decide) ?_
      refine lv_goto (tgt := 69) hx hb dX7_change_65 (by decide) ?_
      refine lv_iconst (v := (1 : Int32)) hx hb dX7_change_69 (by decide) ?_
      refine lv_iconst (v := (1 : Int32)) hx hb dX7_change_70 (by decide) ?_
      obtain ⟨r71, hr71, hM⟩ := h_b hM
      refine a_callV (σ' := aG r71.2) (v := (some (.int r71.1))) (As := fun ad => [.int (1 : Int32), .int (1 : Int32), .int (1 : Int32)]) (rest := []) (o := 109) C hw (c_X7_bad l hr71) k_X7_bad wM_X7_164 ⟨⟨rfl, rfl⟩, ⟨Nat.le_of_ble_eq_true rfl, Nat.le_of_ble_eq_true rfl⟩⟩ rfl (by decide) rfl rfl rfl hl rfl (Nat.le_of_ble_eq_true rfl) dX7_change_71 ⟨Nat.zero_le _, Nat.zero_le _⟩ (fun H locs hw => ?_)
      refine lv_if_eq (tgt := 79) hx hb dX7_change_74 (by decide) (fun hc => ?_) (fun hc => ?_)
      · replace hM := h_t hc hM
        refine lv_aload_n hx hb dX7_change_79 rfl (lv_at hl 1 rfl) ?_
        obtain ⟨r80, hr80, hM⟩ := h_b hM
        refine a_callV (σ' := aG r80) (v := none) (As := fun ad => []) (rest := []) (o := 109) C hw (c_X7_remembers l hr80) k_X7_remembers wM_X7_173 ⟨⟨rfl, rfl⟩, ⟨Nat.le_of_ble_eq_true rfl, Nat.le_of_ble_eq_true rfl⟩⟩ rfl (by decide) rfl rfl rfl hl rfl (Nat.le_of_ble_eq_true rfl) dX7_change_80 ⟨Nat.zero_le _, Nat.zero_le _⟩ (fun H locs hw => ?_)
        refine lv_aload_n hx hb dX7_change_83 rfl (lv_at hl 1 rfl) ?_
        refine a_getp (q := 112) (σ := aG r80) (o := 109) (T := TX7) (N := 20) C wU_X7 hw rfl (by decide) rfl 9 (by decide) rfl wF_X7_20 (aG_P rfl rfl) dX7_change_84 ?_
        refine lv_iconst (v := (4 : Int32)) hx hb dX7_change_87 (by decide) ?_
        refine lv_iload_n hx hb dX7_change_88 rfl (lv_at hl 2 rfl) ?_
        refine lv_iadd hx hb dX7_change_89 ?_
        obtain ⟨hi, hM⟩ := h_i hM
        refine a_iald (σ := aG r80) (o := 112) C hw rfl hi rfl dX7_change_90 ?_
        refine lv_istore (lv' := [(4, .int (gI r80 112 ((4 : Int32) + x1).toNatClampNeg)), (3, .int (5 : Int32)), (0, .ref (ad 109)), (1, .int x1), (2, .int x2)]) hx hb dX7_change_91 hl (by decide) rfl (fun ls hl => ?_)
        refine lv_aload_n hx hb dX7_change_93 rfl (lv_at hl 2 rfl) ?_
        refine a_getp (q := 112) (σ := aG r80) (o := 109) (T := TX7) (N := 20) C wU_X7 hw rfl (by decide) rfl 9 (by decide) rfl wF_X7_20 (aG_P rfl rfl) dX7_change_94 ?_
        refine lv_iconst (v := (4 : Int32)) hx hb dX7_change_97 (by decide) ?_
        refine lv_iload_n hx hb dX7_change_98 rfl (lv_at hl 3 rfl) ?_
        refine lv_iadd hx hb dX7_change_99 ?_
        refine lv_iload_n hx hb dX7_change_100 rfl (lv_at hl 4 rfl) ?_
        obtain ⟨hi, hM⟩ := h_i hM
        refine a_iast (σ := aG r80) (o := 112) C hw rfl hi rfl dX7_change_101 (fun H locs hw => ?_)
        have hw : aW D dA ad adV (aG (pI r80 112 ((4 : Int32) + x1).toNatClampNeg x2)) A s H locs := hw
        refine lv_iload hx hb dX7_change_102 (lv_at hl 0 rfl) ?_
        cases h_e hM
        exact a_iret C hw dX7_change_104
      · replace hM := h_f hc hM
        refine lv_iconst (v := (0 : Int32)) hx hb dX7_change_77 (by decide) ?_
        cases h_e hM
        exact a_iret C hw dX7_change_78
    · replace hM := h_f hc hM
      refine lv_iload_n hx hb dX7_change_46 rfl (lv_at hl 3 rfl) ?_
      refine lv_iload_n hx hb dX7_change_47 rfl (lv_at hl 2 rfl) ?_
      refine lv_iconst (v := (3 : Int32)) hx hb dX7_change_48 (by decide) ?_
      refine lv_icmp_ne (tgt := 56) hx hb dX7_change_49 (by decide) (fun hc => ?_) (fun hc => ?_)
      · replace hM := h_f hc hM
        refine lv_iconst (v := (0 : Int32)) hx hb dX7_change_56 (by decide) ?_
        refine lv_iload_n hx hb dX7_change_57 rfl (lv_at hl 0 rfl) ?_
        obtain ⟨r58, hr58, hM⟩ := h_b hM
        refine a_callS  (σ' := aG r58.2) (v := (some (.int r58.1))) (as := fun ad => [.int x2, .int (0 : Int32), .int (5 : Int32)]) (rest := [.ref (ad 109)]) C hw (c_X7_in l hr58) k_X7_in wM_X7_81 ⟨⟨rfl, rfl⟩, ⟨Nat.le_of_ble_eq_true rfl, Nat.le_of_ble_eq_true rfl⟩⟩ rfl hl rfl (Nat.le_of_ble_eq_true rfl) dX7_change_58 ⟨Nat.zero_le _, Nat.zero_le _⟩ (fun H locs hw => ?_)
        refine lv_if_ne (tgt := 68) hx hb dX7_change_61 (by decide) (fun hc => ?_) (fun hc => ?_)
        · replace hM := h_f hc hM
          refine lv_iconst (v := (0 : Int32)) hx hb dX7_change_68 (by decide) ?_
          refine lv_iconst (v := (1 : Int32)) hx hb dX7_change_69 (by decide) ?_
          refine lv_iconst (v := (1 : Int32)) hx hb dX7_change_70 (by decide) ?_
          obtain ⟨r71, hr71, hM⟩ := h_b hM
          refine a_callV (σ' := aG r71.2) (v := (some (.int r71.1))) (As := fun ad => [.int (0 : Int32), .int (1 : Int32), .int (1 : Int32)]) (rest := []) (o := 109) C hw (c_X7_bad l hr71) k_X7_bad wM_X7_164 ⟨⟨rfl, rfl⟩, ⟨Nat.le_of_ble_eq_true rfl, Nat.le_of_ble_eq_true rfl⟩⟩ rfl (by decide) rfl rfl rfl hl rfl (Nat.le_of_ble_eq_true rfl) dX7_change_71 ⟨Nat.zero_le _, Nat.zero_le _⟩ (fun H locs hw => ?_)
          refine lv_if_eq (tgt := 79) hx hb dX7_change_74 (by decide) (fun hc => ?_) (fun hc => ?_)
          · replace hM := h_t hc hM
            refine lv_aload_n hx hb dX7_change_79 rfl (lv_at hl 1 rfl) ?_
            obtain ⟨r80, hr80, hM⟩ := h_b hM
            refine a_callV (σ' := aG r80) (v := none) (As := fun ad => []) (rest := []) (o := 109) C hw (c_X7_remembers l hr80) k_X7_remembers wM_X7_173 ⟨⟨rfl, rfl⟩, ⟨Nat.le_of_ble_eq_true rfl, Nat.le_of_ble_eq_true rfl⟩⟩ rfl (by decide) rfl rfl rfl hl rfl (Nat.le_of_ble_eq_true rfl) dX7_change_80 ⟨Nat.zero_le _, Nat.zero_le _⟩ (fun H locs hw => ?_)
            refine lv_aload_n hx hb dX7_change_83 rfl (lv_at hl 1 rfl) ?_
            refine a_getp (q := 112) (σ := aG r80) (o := 109) (T := TX7) (N := 20) C wU_X7 hw rfl (by decide) rfl 9 (by decide) rfl wF_X7_20 (aG_P rfl rfl) dX7_change_84 ?_
            refine lv_iconst (v := (4 : Int32)) hx hb dX7_change_87 (by decide) ?_
            refine lv_iload_n hx hb dX7_change_88 rfl (lv_at hl 2 rfl) ?_
            refine lv_iadd hx hb dX7_change_89 ?_
            obtain ⟨hi, hM⟩ := h_i hM
            refine a_iald (σ := aG r80) (o := 112) C hw rfl hi rfl dX7_change_90 ?_
            refine lv_istore (lv' := [(4, .int (gI r80 112 ((4 : Int32) + x1).toNatClampNeg)), (3, .int (5 : Int32)), (0, .ref (ad 109)), (1, .int x1), (2, .int x2)]) hx hb dX7_change_91 hl (by decide) rfl (fun ls hl => ?_)
            refine lv_aload_n hx hb dX7_change_93 rfl (lv_at hl 2 rfl) ?_
            refine a_getp (q := 112) (σ := aG r80) (o := 109) (T := TX7) (N := 20) C wU_X7 hw rfl (by decide) rfl 9 (by decide) rfl wF_X7_20 (aG_P rfl rfl) dX7_change_94 ?_
            refine lv_iconst (v := (4 : Int32)) hx hb dX7_change_97 (by decide) ?_
            refine lv_iload_n hx hb dX7_change_98 rfl (lv_at hl 3 rfl) ?_
            refine lv_iadd hx hb dX7_change_99 ?_
            refine lv_iload_n hx hb dX7_change_100 rfl (lv_at hl 4 rfl) ?_
            obtain ⟨hi, hM⟩ := h_i hM
            refine a_iast (σ := aG r80) (o := 112) C hw rfl hi rfl dX7_change_101 (fun H locs hw => ?_)
            have hw : aW D dA ad adV (aG (pI r80 112 ((4 : Int32) + x1).toNatClampNeg x2)) A s H locs := hw
            refine lv_iload hx hb dX7_change_102 (lv_at hl 0 rfl) ?_
            cases h_e hM
            exact a_iret C hw dX7_change_104
          · replace hM := h_f hc hM
            refine lv_iconst (v := (0 : Int32)) hx hb dX7_change_77 (by decide) ?_
            cases h_e hM
            exact a_iret C hw dX7_change_78
        · replace hM := h_t hc hM
          refine lv_iconst (v := (1 : Int32)) hx hb dX7_change_64 (by decide) ?_
          refine lv_goto (tgt := 69) hx hb dX7_change_65 (by decide) ?_
          refine lv_iconst (v := (1 : Int32)) hx hb dX7_change_69 (by decide) ?_
          refine lv_iconst (v := (1 : Int32)) hx hb dX7_change_70 (by decide) ?_
          obtain ⟨r71, hr71, hM⟩ := h_b hM
          refine a_callV (σ' := aG r71.2) (v := (some (.int r71.1))) (As := fun ad => [.int (1 : Int32), .int (1 : Int32), .int (1 : Int32)]) (rest := []) (o := 109) C hw (c_X7_bad l hr71) k_X7_bad wM_X7_164 ⟨⟨rfl, rfl⟩, ⟨Nat.le_of_ble_eq_true rfl, Nat.le_of_ble_eq_true rfl⟩⟩ rfl (by decide) rfl rfl rfl hl rfl (Nat.le_of_ble_eq_true rfl) dX7_change_71 ⟨Nat.zero_le _, Nat.zero_le _⟩ (fun H locs hw => ?_)
          refine lv_if_eq (tgt := 79) hx hb dX7_change_74 (by decide) (fun hc => ?_) (fun hc => ?_)
          · replace hM := h_t hc hM
            refine lv_aload_n hx hb dX7_change_79 rfl (lv_at hl 1 rfl) ?_
            obtain ⟨r80, hr80, hM⟩ := h_b hM
            refine a_callV (σ' := aG r80) (v := none) (As := fun ad => []) (rest := []) (o := 109) C hw (c_X7_remembers l hr80) k_X7_remembers wM_X7_173 ⟨⟨rfl, rfl⟩, ⟨Nat.le_of_ble_eq_true rfl, Nat.le_of_ble_eq_true rfl⟩⟩ rfl (by decide) rfl rfl rfl hl rfl (Nat.le_of_ble_eq_true rfl) dX7_change_80 ⟨Nat.zero_le _, Nat.zero_le _⟩ (fun H locs hw => ?_)
            refine lv_aload_n hx hb dX7_change_83 rfl (lv_at hl 1 rfl) ?_
            refine a_getp (q := 112) (σ := aG r80) (o := 109) (T := TX7) (N := 20) C wU_X7 hw rfl (by decide) rfl 9 (by decide) rfl wF_X7_20 (aG_P rfl rfl) dX7_change_84 ?_
            refine lv_iconst (v := (4 : Int32)) hx hb dX7_change_87 (by decide) ?_
            refine lv_iload_n hx hb dX7_change_88 rfl (lv_at hl 2 rfl) ?_
            refine lv_iadd hx hb dX7_change_89 ?_
            obtain ⟨hi, hM⟩ := h_i hM
            refine a_iald (σ := aG r80) (o := 112) C hw rfl hi rfl dX7_change_90 ?_
            refine lv_istore (lv' := [(4, .int (gI r80 112 ((4 : Int32) + x1).toNatClampNeg)), (3, .int (5 : Int32)), (0, .ref (ad 109)), (1, .int x1), (2, .int x2)]) hx hb dX7_change_91 hl (by decide) rfl (fun ls hl => ?_)
            refine lv_aload_n hx hb dX7_change_93 rfl (lv_at hl 2 rfl) ?_
            refine a_getp (q := 112) (σ := aG r80) (o := 109) (T := TX7) (N := 20) C wU_X7 hw rfl (by decide) rfl 9 (by decide) rfl wF_X7_20 (aG_P rfl rfl) dX7_change_94 ?_
            refine lv_iconst (v := (4 : Int32)) hx hb dX7_change_97 (by decide) ?_
            refine lv_iload_n hx hb dX7_change_98 rfl (lv_at hl 3 rfl) ?_
            refine lv_iadd hx hb dX7_change_99 ?_
            refine lv_iload_n hx hb dX7_change_100 rfl (lv_at hl 4 rfl) ?_
            obtain ⟨hi, hM⟩ := h_i hM
            refine a_iast (σ := aG r80) (o := 112) C hw rfl hi rfl dX7_change_101 (fun H locs hw => ?_)
            have hw : aW D dA ad adV (aG (pI r80 112 ((4 : Int32) + x1).toNatClampNeg x2)) A s H locs := hw
            refine lv_iload hx hb dX7_change_102 (lv_at hl 0 rfl) ?_
            cases h_e hM
            exact a_iret C hw dX7_change_104
          · replace hM := h_f hc hM
            refine lv_iconst (v := (0 : Int32)) hx hb dX7_change_77 (by decide) ?_
            cases h_e hM
            exact a_iret C hw dX7_change_78
      · replace hM := h_t hc hM
        refine lv_iconst (v := (1 : Int32)) hx hb dX7_change_52 (by decide) ?_
        refine lv_goto (tgt := 57) hx hb dX7_change_53 (by decide) ?_
        refine lv_iload_n hx hb dX7_change_57 rfl (lv_at hl 0 rfl) ?_
        obtain ⟨r58, hr58, hM⟩ := h_b hM
        refine a_callS  (σ' := aG r58.2) (v := (some (.int r58.1))) (as := fun ad => [.int x2, .int (1 : Int32), .int (5 : Int32)]) (rest := [.ref (ad 109)]) C hw (c_X7_in l hr58) k_X7_in wM_X7_81 ⟨⟨rfl, rfl⟩, ⟨Nat.le_of_ble_eq_true rfl, Nat.le_of_ble_eq_true rfl⟩⟩ rfl hl rfl (Nat.le_of_ble_eq_true rfl) dX7_change_58 ⟨Nat.zero_le _, Nat.zero_le _⟩ (fun H locs hw => ?_)
        refine lv_if_ne (tgt := 68) hx hb dX7_change_61 (by decide) (fun hc => ?_) (fun hc => ?_)
        · replace hM := h_f hc hM
          refine lv_iconst (v := (0 : Int32)) hx hb dX7_change_68 (by decide) ?_
          refine lv_iconst (v := (1 : Int32)) hx hb dX7_change_69 (by decide) ?_
          refine lv_iconst (v := (1 : Int32)) hx hb dX7_change_70 (by decide) ?_
          obtain ⟨r71, hr71, hM⟩ := h_b hM
          refine a_callV (σ' := aG r71.2) (v := (some (.int r71.1))) (As := fun ad => [.int (0 : Int32), .int (1 : Int32), .int (1 : Int32)]) (rest := []) (o := 109) C hw (c_X7_bad l hr71) k_X7_bad wM_X7_164 ⟨⟨rfl, rfl⟩, ⟨Nat.le_of_ble_eq_true rfl, Nat.le_of_ble_eq_true rfl⟩⟩ rfl (by decide) rfl rfl rfl hl rfl (Nat.le_of_ble_eq_true rfl) dX7_change_71 ⟨Nat.zero_le _, Nat.zero_le _⟩ (fun H locs hw => ?_)
          refine lv_if_eq (tgt := 79) hx hb dX7_change_74 (by decide) (fun hc => ?_) (fun hc => ?_)
          · replace hM := h_t hc hM
            refine lv_aload_n hx hb dX7_change_79 rfl (lv_at hl 1 rfl) ?_
            obtain ⟨r80, hr80, hM⟩ := h_b hM
            refine a_callV (σ' := aG r80) (v := none) (As := fun ad => []) (rest := []) (o := 109) C hw (c_X7_remembers l hr80) k_X7_remembers wM_X7_173 ⟨⟨rfl, rfl⟩, ⟨Nat.le_of_ble_eq_true rfl, Nat.le_of_ble_eq_true rfl⟩⟩ rfl (by decide) rfl rfl rfl hl rfl (Nat.le_of_ble_eq_true rfl) dX7_change_80 ⟨Nat.zero_le _, Nat.zero_le _⟩ (fun H locs hw => ?_)
            refine lv_aload_n hx hb dX7_change_83 rfl (lv_at hl 1 rfl) ?_
            refine a_getp (q := 112) (σ := aG r80) (o := 109) (T := TX7) (N := 20) C wU_X7 hw rfl (by decide) rfl 9 (by decide) rfl wF_X7_20 (aG_P rfl rfl) dX7_change_84 ?_
            refine lv_iconst (v := (4 : Int32)) hx hb dX7_change_87 (by decide) ?_
            refine lv_iload_n hx hb dX7_change_88 rfl (lv_at hl 2 rfl) ?_
            refine lv_iadd hx hb dX7_change_89 ?_
            obtain ⟨hi, hM⟩ := h_i hM
            refine a_iald (σ := aG r80) (o := 112) C hw rfl hi rfl dX7_change_90 ?_
            refine lv_istore (lv' := [(4, .int (gI r80 112 ((4 : Int32) + x1).toNatClampNeg)), (3, .int (5 : Int32)), (0, .ref (ad 109)), (1, .int x1), (2, .int x2)]) hx hb dX7_change_91 hl (by decide) rfl (fun ls hl => ?_)
            refine lv_aload_n hx hb dX7_change_93 rfl (lv_at hl 2 rfl) ?_
            refine a_getp (q := 112) (σ := aG r80) (o := 109) (T := TX7) (N := 20) C wU_X7 hw rfl (by decide) rfl 9 (by decide) rfl wF_X7_20 (aG_P rfl rfl) dX7_change_94 ?_
            refine lv_iconst (v := (4 : Int32)) hx hb dX7_change_97 (by decide) ?_
            refine lv_iload_n hx hb dX7_change_98 rfl (lv_at hl 3 rfl) ?_
            refine lv_iadd hx hb dX7_change_99 ?_
            refine lv_iload_n hx hb dX7_change_100 rfl (lv_at hl 4 rfl) ?_
            obtain ⟨hi, hM⟩ := h_i hM
            refine a_iast (σ := aG r80) (o := 112) C hw rfl hi rfl dX7_change_101 (fun H locs hw => ?_)
            have hw : aW D dA ad adV (aG (pI r80 112 ((4 : Int32) + x1).toNatClampNeg x2)) A s H locs := hw
            refine lv_iload hx hb dX7_change_102 (lv_at hl 0 rfl) ?_
            cases h_e hM
            exact a_iret C hw dX7_change_104
          · replace hM := h_f hc hM
            refine lv_iconst (v := (0 : Int32)) hx hb dX7_change_77 (by decide) ?_
            cases h_e hM
            exact a_iret C hw dX7_change_78
        · replace hM := h_t hc hM
          refine lv_iconst (v := (1 : Int32)) hx hb dX7_change_64 (by decide) ?_
          refine lv_goto (tgt := 69) hx hb dX7_change_65 (by decide) ?_
          refine lv_iconst (v := (1 : Int32)) hx hb dX7_change_69 (by decide) ?_
          refine lv_iconst (v := (1 : Int32)) hx hb dX7_change_70 (by decide) ?_
          obtain ⟨r71, hr71, hM⟩ := h_b hM
          refine a_callV (σ' := aG r71.2) (v := (some (.int r71.1))) (As := fun ad => [.int (1 : Int32), .int (1 : Int32), .int (1 : Int32)]) (rest := []) (o := 109) C hw (c_X7_bad l hr71) k_X7_bad wM_X7_164 ⟨⟨rfl, rfl⟩, ⟨Nat.le_of_ble_eq_true rfl, Nat.le_of_ble_eq_true rfl⟩⟩ rfl (by decide) rfl rfl rfl hl rfl (Nat.le_of_ble_eq_true rfl) dX7_change_71 ⟨Nat.zero_le _, Nat.zero_le _⟩ (fun H locs hw => ?_)
          refine lv_if_eq (tgt := 79) hx hb dX7_change_74 (by decide) (fun hc => ?_) (fun hc => ?_)
          · replace hM := h_t hc hM
            refine lv_aload_n hx hb dX7_change_79 rfl (lv_at hl 1 rfl) ?_
            obtain ⟨r80, hr80, hM⟩ := h_b hM
            refine a_callV (σ' := aG r80) (v := none) (As := fun ad => []) (rest := []) (o := 109) C hw (c_X7_remembers l hr80) k_X7_remembers wM_X7_173 ⟨⟨rfl, rfl⟩, ⟨Nat.le_of_ble_eq_true rfl, Nat.le_of_ble_eq_true rfl⟩⟩ rfl (by decide) rfl rfl rfl hl rfl (Nat.le_of_ble_eq_true rfl) dX7_change_80 ⟨Nat.zero_le _, Nat.zero_le _⟩ (fun H locs hw => ?_)
            refine lv_aload_n hx hb dX7_change_83 rfl (lv_at hl 1 rfl) ?_
            refine a_getp (q := 112) (σ := aG r80) (o := 109) (T := TX7) (N := 20) C wU_X7 hw rfl (by decide) rfl 9 (by decide) rfl wF_X7_20 (aG_P rfl rfl) dX7_change_84 ?_
            refine lv_iconst (v := (4 : Int32)) hx hb dX7_change_87 (by decide) ?_
            refine lv_iload_n hx hb dX7_change_88 rfl (lv_at hl 2 rfl) ?_
            refine lv_iadd hx hb dX7_change_89 ?_
            obtain ⟨hi, hM⟩ := h_i hM
            refine a_iald (σ := aG r80) (o := 112) C hw rfl hi rfl dX7_change_90 ?_
            refine lv_istore (lv' := [(4, .int (gI r80 112 ((4 : Int32) + x1).toNatClampNeg)), (3, .int (5 : Int32)), (0, .ref (ad 109)), (1, .int x1), (2, .int x2)]) hx hb dX7_change_91 hl (by decide) rfl (fun ls hl => ?_)
            refine lv_aload_n hx hb dX7_change_93 rfl (lv_at hl 2 rfl) ?_
            refine a_getp (q := 112) (σ := aG r80) (o := 109) (T := TX7) (N := 20) C wU_X7 hw rfl (by decide) rfl 9 (by decide) rfl wF_X7_20 (aG_P rfl rfl) dX7_change_94 ?_
            refine lv_iconst (v := (4 : Int32)) hx hb dX7_change_97 (by decide) ?_
            refine lv_iload_n hx hb dX7_change_98 rfl (lv_at hl 3 rfl) ?_
            refine lv_iadd hx hb dX7_change_99 ?_
            refine lv_iload_n hx hb dX7_change_100 rfl (lv_at hl 4 rfl) ?_
            obtain ⟨hi, hM⟩ := h_i hM
            refine a_iast (σ := aG r80) (o := 112) C hw rfl hi rfl dX7_change_101 (fun H locs hw => ?_)
            have hw : aW D dA ad adV (aG (pI r80 112 ((4 : Int32) + x1).toNatClampNeg x2)) A s H locs := hw
            refine lv_iload hx hb dX7_change_102 (lv_at hl 0 rfl) ?_
            cases h_e hM
            exact a_iret C hw dX7_change_104
          · replace hM := h_f hc hM
            refine lv_iconst (v := (0 : Int32)) hx hb dX7_change_77 (by decide) ?_
            cases h_e hM
            exact a_iret C hw dX7_change_78
def rm_X7_mock : Room := { frames := 2, cells := 0, slots := 0, locals := 43 }
theorem k_X7_mock : aCal RX7 yX7_mock cX7_mock 2 (some .int) 1 := ⟨wI_yX7_mock, wE_yX7_mock, wZ_X7, wC_yX7_mock, by decide +kernel⟩
set_option maxHeartbeats 4000000 in
set_option maxRecDepth 100000 in
theorem c_X7_mock (l : Launch) {x1 : Int32} {ι : iS} {res : Int32 × iS} (hM : m_X7_mock x1 ι = some res) : aM l yX7_mock cX7_mock 2 (some .int) rm_X7_mock (fun ad => [.ref (ad 109), .int x1]) (aG ι) (some (.int res.1)) (aG res.2) := by
  refine aM.of (by decide) (fun _ => Nat.le_of_ble_eq_true rfl) ?_
  intro p e s m args below meth c D dA ad adV A ls C hw hl
  have C : aX p m c cX7_mock 2 s args aTs RX7 meth (some .int) := C
  have hx := C.1.1
  have hb := C.1.2.1
  have hml := C.1.2.2.1
  have hown := C.1.2.2.2.1
  have hts := C.1.2.2.2.2
  have hl : lv_has ls 2 [(0, .ref (ad 109)), (1, .int x1)] := hl
  unfold m_X7_mock at hM
  refine lv_aload_n hx hb dX7_mock_0 rfl (lv_at hl 0 rfl) ?_
  refine lv_iconst (v := (0 : Int32)) hx hb dX7_mock_1 (by decide) ?_
  refine a_puti (ty := .int) (σ := aG ι) (o := 109) (T := TX7) (N := 20) (ty0 := tyX7) C wU_X7 tyX7_ok nmX7 hw rfl (by decide) rfl 0 (by decide) rfl wF_X7_42 rfl (by decide +kernel) rfl rfl dX7_mock_2 (fun H locs hw => ?_)
  have hw : aW D dA ad adV (aG (pI ι 109 0 (0 : Int32))) A s H locs := hw
  refine lv_aload_n hx hb dX7_mock_5 rfl (lv_at hl 0 rfl) ?_
  refine lv_aload_n hx hb dX7_mock_6 rfl (lv_at hl 0 rfl) ?_
  refine lv_iload_n hx hb dX7_mock_7 rfl (lv_at hl 1 rfl) ?_
  obtain ⟨r8, hr8, hM⟩ := h_b hM
  refine a_callV (σ' := aG r8.2) (v := (some (.int r8.1))) (As := fun ad => [.int x1]) (rest := [.ref (ad 109)]) (o := 109) C hw (c_X7_isPerson l hr8) k_X7_isPerson wM_X7_207 ⟨⟨rfl, rfl⟩, ⟨Nat.le_of_ble_eq_true rfl, Nat.le_of_ble_eq_true rfl⟩⟩ rfl (by decide) rfl rfl rfl hl rfl (Nat.le_of_ble_eq_true rfl) dX7_mock_8 ⟨Nat.zero_le _, Nat.zero_le _⟩ (fun H locs hw => ?_)
  refine lv_if_ne (tgt := 18) hx hb dX7_mock_11 (by decide) (fun hc => ?_) (fun hc => ?_)
  · replace hM := h_f hc hM
    refine lv_iconst (v := (0 : Int32)) hx hb dX7_mock_18 (by decide) ?_
    refine lv_iconst (v := (1 : Int32)) hx hb dX7_mock_19 (by decide) ?_
    refine lv_iconst (v := (0 : Int32)) hx hb dX7_mock_20 (by decide) ?_
    obtain ⟨r21, hr21, hM⟩ := h_b hM
    refine a_callV (σ' := aG r21.2) (v := (some (.int r21.1))) (As := fun ad => [.int (0 : Int32), .int (1 : Int32), .int (0 : Int32)]) (rest := []) (o := 109) C hw (c_X7_bad l hr21) k_X7_bad wM_X7_164 ⟨⟨rfl, rfl⟩, ⟨Nat.le_of_ble_eq_true rfl, Nat.le_of_ble_eq_true rfl⟩⟩ rfl (by decide) rfl rfl rfl hl rfl (Nat.le_of_ble_eq_true rfl) dX7_mock_21 ⟨Nat.zero_le _, Nat.zero_le _⟩ (fun H locs hw => ?_)
    refine lv_if_ne (tgt := 65) hx hb dX7_mock_24 (by decide) (fun hc => ?_) (fun hc => ?_)
    · replace hM := h_f hc hM
      refine lv_iconst (v := (0 : Int32)) hx hb dX7_mock_65 (by decide) ?_
      cases h_e hM
      exact a_iret C hw dX7_mock_66
    · replace hM := h_t hc hM
      refine lv_aload_n hx hb dX7_mock_27 rfl (lv_at hl 0 rfl) ?_
      refine lv_aload_n hx hb dX7_mock_28 rfl (lv_at hl 0 rfl) ?_
      refine lv_iload_n hx hb dX7_mock_29 rfl (lv_at hl 1 rfl) ?_
      obtain ⟨r30, hr30, hM⟩ := h_b hM
      refine a_callV (σ' := aG r30.2) (v := (some (.int r30.1))) (As := fun ad => [.int x1]) (rest := [.ref (ad 109)]) (o := 109) C hw (c_X7_placeOf l hr30) k_X7_placeOf wM_X7_210 ⟨⟨rfl, rfl⟩, ⟨Nat.le_of_ble_eq_true rfl, Nat.le_of_ble_eq_true rfl⟩⟩ rfl (by decide) rfl rfl rfl hl rfl (Nat.le_of_ble_eq_true rfl) dX7_mock_30 ⟨Nat.zero_le _, Nat.zero_le _⟩ (fun H locs hw => ?_)
      refine lv_iconst (v := (-1 : Int32)) hx hb dX7_mock_33 (by decide) ?_
      refine lv_icmp_eq (tgt := 52) hx hb dX7_mock_34 (by decide) (fun hc => ?_) (fun hc => ?_)
      · replace hM := h_t hc hM
        refine lv_iconst (v := (1 : Int32)) hx hb dX7_mock_52 (by decide) ?_
        refine lv_goto (tgt := 57) hx hb dX7_mock_53 (by decide) ?_
        refine lv_iconst (v := (2 : Int32)) hx hb dX7_mock_57 (by decide) ?_
        refine lv_iconst (v := (2 : Int32)) hx hb dX7_mock_58 (by decide) ?_
        obtain ⟨r59, hr59, hM⟩ := h_b hM
        refine a_callV (σ' := aG r59.2) (v := (some (.int r59.1))) (As := fun ad => [.int (1 : Int32), .int (2 : Int32), .int (2 : Int32)]) (rest := []) (o := 109) C hw (c_X7_bad l hr59) k_X7_bad wM_X7_164 ⟨⟨rfl, rfl⟩, ⟨Nat.le_of_ble_eq_true rfl, Nat.le_of_ble_eq_true rfl⟩⟩ rfl (by decide) rfl rfl rfl hl rfl (Nat.le_of_ble_eq_true rfl) dX7_mock_59 ⟨Nat.zero_le _, Nat.zero_le _⟩ (fun H locs hw => ?_)
        refine lv_if_eq (tgt := 67) hx hb dX7_mock_62 (by decide) (fun hc => ?_) (fun hc => ?_)
        · replace hM := h_t hc hM
          refine lv_aload_n hx hb dX7_mock_67 rfl (lv_at hl 0 rfl) ?_
          obtain ⟨r68, hr68, hM⟩ := h_b hM
          refine a_callV (σ' := aG r68) (v := none) (As := fun ad => []) (rest := []) (o := 109) C hw (c_X7_remembers l hr68) k_X7_remembers wM_X7_173 ⟨⟨rfl, rfl⟩, ⟨Nat.le_of_ble_eq_true rfl, Nat.le_of_ble_eq_true rfl⟩⟩ rfl (by decide) rfl rfl rfl hl rfl (Nat.le_of_ble_eq_true rfl) dX7_mock_68 ⟨Nat.zero_le _, Nat.zero_le _⟩ (fun H locs hw => ?_)
          refine lv_aload_n hx hb dX7_mock_71 rfl (lv_at hl 0 rfl) ?_
          refine a_getp (q := 112) (σ := aG r68) (o := 109) (T := TX7) (N := 20) C wU_X7 hw rfl (by decide) rfl 9 (by decide) rfl wF_X7_20 (aG_P rfl rfl) dX7_mock_72 ?_
          refine lv_bipush (v := (107 : Int32)) hx hb dX7_mock_75 (by decide) ?_
          refine lv_iload_n hx hb dX7_mock_77 rfl (lv_at hl 1 rfl) ?_
          refine lv_iadd hx hb dX7_mock_78 ?_
          refine lv_dup2_11 hx hb dX7_mock_79 rfl rfl ?_
          obtain ⟨hi, hM⟩ := h_i hM
          refine a_iald (σ := aG r68) (o := 112) C hw rfl hi rfl dX7_mock_80 ?_
          refine lv_iconst (v := (1 : Int32)) hx hb dX7_mock_81 (by decide) ?_
          refine lv_iadd hx hb dX7_mock_82 ?_
          obtain ⟨hi, hM⟩ := h_i hM
          refine a_iast (σ := aG r68) (o := 112) C hw rfl hi rfl dX7_mock_83 (fun H locs hw => ?_)
          have hw : aW D dA ad adV (aG (pI r68 112 ((107 : Int32) + x1).toNatClampNeg ((gI r68 112 ((107 : Int32) + x1).toNatClampNeg) + (1 : Int32)))) A s H locs := hw
          refine lv_aload_n hx hb dX7_mock_84 rfl (lv_at hl 0 rfl) ?_
          refine a_getp (q := 112) (σ := aG (pI r68 112 ((107 : Int32) + x1).toNatClampNeg ((gI r68 112 ((107 : Int32) + x1).toNatClampNeg) + (1 : Int32)))) (o := 109) (T := TX7) (N := 20) C wU_X7 hw rfl (by decide) rfl 9 (by decide) rfl wF_X7_20 (aG_P rfl rfl) dX7_mock_85 ?_
          refine lv_bipush (v := (107 : Int32)) hx hb dX7_mock_88 (by decide) ?_
          refine lv_iload_n hx hb dX7_mock_90 rfl (lv_at hl 1 rfl) ?_
          refine lv_iadd hx hb dX7_mock_91 ?_
          obtain ⟨hi, hM⟩ := h_i hM
          refine a_iald (σ := aG (pI r68 112 ((107 : Int32) + x1).toNatClampNeg ((gI r68 112 ((107 : Int32) + x1).toNatClampNeg) + (1 : Int32)))) (o := 112) C hw rfl hi rfl dX7_mock_92 ?_
          cases h_e hM
          exact a_iret C hw dX7_mock_93
        · replace hM := h_f hc hM
          refine lv_iconst (v := (0 : Int32)) hx hb dX7_mock_65 (by decide) ?_
          cases h_e hM
          exact a_iret C hw dX7_mock_66
      · replace hM := h_f hc hM
        refine lv_aload_n hx hb dX7_mock_37 rfl (lv_at hl 0 rfl) ?_
        refine a_getp (q := 112) (σ := aG r30.2) (o := 109) (T := TX7) (N := 20) C wU_X7 hw rfl (by decide) rfl 9 (by decide) rfl wF_X7_20 (aG_P rfl rfl) dX7_mock_38 ?_
        refine lv_bipush (v := (107 : Int32)) hx hb dX7_mock_41 (by decide) ?_
        refine lv_iload_n hx hb dX7_mock_43 rfl (lv_at hl 1 rfl) ?_
        refine lv_iadd hx hb dX7_mock_44 ?_
        obtain ⟨hi, hM⟩ := h_i hM
        refine a_iald (σ := aG r30.2) (o := 112) C hw rfl hi rfl dX7_mock_45 ?_
        refine lv_sipush (v := (999 : Int32)) hx hb dX7_mock_46 (by decide) ?_
        refine lv_icmp_ne (tgt := 56) hx hb dX7_mock_49 (by decide) (fun hc => ?_) (fun hc => ?_)
        · replace hM := h_f hc hM
          refine lv_iconst (v := (0 : Int32)) hx hb dX7_mock_56 (by decide) ?_
          refine lv_iconst (v := (2 : Int32)) hx hb dX7_mock_57 (by decide) ?_
          refine lv_iconst (v := (2 : Int32)) hx hb dX7_mock_58 (by decide) ?_
          obtain ⟨r59, hr59, hM⟩ := h_b hM
          refine a_callV (σ' := aG r59.2) (v := (some (.int r59.1))) (As := fun ad => [.int (0 : Int32), .int (2 : Int32), .int (2 : Int32)]) (rest := []) (o := 109) C hw (c_X7_bad l hr59) k_X7_bad wM_X7_164 ⟨⟨rfl, rfl⟩, ⟨Nat.le_of_ble_eq_true rfl, Nat.le_of_ble_eq_true rfl⟩⟩ rfl (by decide) rfl rfl rfl hl rfl (Nat.le_of_ble_eq_true rfl) dX7_mock_59 ⟨Nat.zero_le _, Nat.zero_le _⟩ (fun H locs hw => ?_)
          refine lv_if_eq (tgt := 67) hx hb dX7_mock_62 (by decide) (fun hc => ?_) (fun hc => ?_)
          · replace hM := h_t hc hM
            refine lv_aload_n hx hb dX7_mock_67 rfl (lv_at hl 0 rfl) ?_
            obtain ⟨r68, hr68, hM⟩ := h_b hM
            refine a_callV (σ' := aG r68) (v := none) (As := fun ad => []) (rest := []) (o := 109) C hw (c_X7_remembers l hr68) k_X7_remembers wM_X7_173 ⟨⟨rfl, rfl⟩, ⟨Nat.le_of_ble_eq_true rfl, Nat.le_of_ble_eq_true rfl⟩⟩ rfl (by decide) rfl rfl rfl hl rfl (Nat.le_of_ble_eq_true rfl) dX7_mock_68 ⟨Nat.zero_le _, Nat.zero_le _⟩ (fun H locs hw => ?_)
            refine lv_aload_n hx hb dX7_mock_71 rfl (lv_at hl 0 rfl) ?_
            refine a_getp (q := 112) (σ := aG r68) (o := 109) (T := TX7) (N := 20) C wU_X7 hw rfl (by decide) rfl 9 (by decide) rfl wF_X7_20 (aG_P rfl rfl) dX7_mock_72 ?_
            refine lv_bipush (v := (107 : Int32)) hx hb dX7_mock_75 (by decide) ?_
            refine lv_iload_n hx hb dX7_mock_77 rfl (lv_at hl 1 rfl) ?_
            refine lv_iadd hx hb dX7_mock_78 ?_
            refine lv_dup2_11 hx hb dX7_mock_79 rfl rfl ?_
            obtain ⟨hi, hM⟩ := h_i hM
            refine a_iald (σ := aG r68) (o := 112) C hw rfl hi rfl dX7_mock_80 ?_
            refine lv_iconst (v := (1 : Int32)) hx hb dX7_mock_81 (by decide) ?_
            refine lv_iadd hx hb dX7_mock_82 ?_
            obtain ⟨hi, hM⟩ := h_i hM
            refine a_iast (σ := aG r68) (o := 112) C hw rfl hi rfl dX7_mock_83 (fun H locs hw => ?_)
            have hw : aW D dA ad adV (aG (pI r68 112 ((107 : Int32) + x1).toNatClampNeg ((gI r68 112 ((107 : Int32) + x1).toNatClampNeg) + (1 : Int32)))) A s H locs := hw
            refine lv_aload_n hx hb dX7_mock_84 rfl (lv_at hl 0 rfl) ?_
            refine a_getp (q := 112) (σ := aG (pI r68 112 ((107 : Int32) + x1).toNatClampNeg ((gI r68 112 ((107 : Int32) + x1).toNatClampNeg) + (1 : Int32)))) (o := 109) (T := TX7) (N := 20) C wU_X7 hw rfl (by decide) rfl 9 (by decide) rfl wF_X7_20 (aG_P rfl rfl) dX7_mock_85 ?_
            refine lv_bipush (v := (107 : Int32)) hx hb dX7_mock_88 (by decide) ?_
            refine lv_iload_n hx hb dX7_mock_90 rfl (lv_at hl 1 rfl) ?_
            refine lv_iadd hx hb dX7_mock_91 ?_
            obtain ⟨hi, hM⟩ := h_i hM
            refine a_iald (σ := aG (pI r68 112 ((107 : Int32) + x1).toNatClampNeg ((gI r68 112 ((107 : Int32) + x1).toNatClampNeg) + (1 : Int32)))) (o := 112) C hw rfl hi rfl dX7_mock_92 ?_
            cases h_e hM
            exact a_iret C hw dX7_mock_93
          · replace hM := h_f hc hM
            refine lv_iconst (v := (0 : Int32)) hx hb dX7_mock_65 (by decide) ?_
            cases h_e hM
            exact a_iret C hw dX7_mock_66
        · replace hM := h_t hc hM
          refine lv_iconst (v := (1 : Int32)) hx hb dX7_mock_52 (by decide) ?_
          refine lv_goto (tgt := 57) hx hb dX7_mock_53 (by decide) ?_
          refine lv_iconst (v := (2 : Int32)) hx hb dX7_mock_57 (by decide) ?_
          refine lv_iconst (v := (2 : Int32)) hx hb dX7_mock_58 (by decide) ?_
          obtain ⟨r59, hr59, hM⟩ := h_b hM
          refine a_callV (σ' := aG r59.2) (v := (some (.int r59.1))) (As := fun ad => [.int (1 : Int32), .int (2 : Int32), .int (2 : Int32)]) (rest := []) (o := 109) C hw (c_X7_bad l hr59) k_X7_bad wM_X7_164 ⟨⟨rfl, rfl⟩, ⟨Nat.le_of_ble_eq_true rfl, Nat.le_of_ble_eq_true rfl⟩⟩ rfl (by decide) rfl rfl rfl hl rfl (Nat.le_of_ble_eq_true rfl) dX7_mock_59 ⟨Nat.zero_le _, Nat.zero_le _⟩ (fun H locs hw => ?_)
          refine lv_if_eq (tgt := 67) hx hb dX7_mock_62 (by decide) (fun hc => ?_) (fun hc => ?_)
          · replace hM := h_t hc hM
            refine lv_aload_n hx hb dX7_mock_67 rfl (lv_at hl 0 rfl) ?_
            obtain ⟨r68, hr68, hM⟩ := h_b hM
            refine a_callV (σ' := aG r68) (v := none) (As := fun ad => []) (rest := []) (o := 109) C hw (c_X7_remembers l hr68) k_X7_remembers wM_X7_173 ⟨⟨rfl, rfl⟩, ⟨Nat.le_of_ble_eq_true rfl, Nat.le_of_ble_eq_true rfl⟩⟩ rfl (by decide) rfl rfl rfl hl rfl (Nat.le_of_ble_eq_true rfl) dX7_mock_68 ⟨Nat.zero_le _, Nat.zero_le _⟩ (fun H locs hw => ?_)
            refine lv_aload_n hx hb dX7_mock_71 rfl (lv_at hl 0 rfl) ?_
            refine a_getp (q := 112) (σ := aG r68) (o := 109) (T := TX7) (N := 20) C wU_X7 hw rfl (by decide) rfl 9 (by decide) rfl wF_X7_20 (aG_P rfl rfl) dX7_mock_72 ?_
            refine lv_bipush (v := (107 : Int32)) hx hb dX7_mock_75 (by decide) ?_
            refine lv_iload_n hx hb dX7_mock_77 rfl (lv_at hl 1 rfl) ?_
            refine lv_iadd hx hb dX7_mock_78 ?_
            refine lv_dup2_11 hx hb dX7_mock_79 rfl rfl ?_
            obtain ⟨hi, hM⟩ := h_i hM
            refine a_iald (σ := aG r68) (o := 112) C hw rfl hi rfl dX7_mock_80 ?_
            refine lv_iconst (v := (1 : Int32)) hx hb dX7_mock_81 (by decide) ?_
            refine lv_iadd hx hb dX7_mock_82 ?_
            obtain ⟨hi, hM⟩ := h_i hM
            refine a_iast (σ := aG r68) (o := 112) C hw rfl hi rfl dX7_mock_83 (fun H locs hw => ?_)
            have hw : aW D dA ad adV (aG (pI r68 112 ((107 : Int32) + x1).toNatClampNeg ((gI r68 112 ((107 : Int32) + x1).toNatClampNeg) + (1 : Int32)))) A s H locs := hw
            refine lv_aload_n hx hb dX7_mock_84 rfl (lv_at hl 0 rfl) ?_
            refine a_getp (q := 112) (σ := aG (pI r68 112 ((107 : Int32) + x1).toNatClampNeg ((gI r68 112 ((107 : Int32) + x1).toNatClampNeg) + (1 : Int32)))) (o := 109) (T := TX7) (N := 20) C wU_X7 hw rfl (by decide) rfl 9 (by decide) rfl wF_X7_20 (aG_P rfl rfl) dX7_mock_85 ?_
            refine lv_bipush (v := (107 : Int32)) hx hb dX7_mock_88 (by decide) ?_
            refine lv_iload_n hx hb dX7_mock_90 rfl (lv_at hl 1 rfl) ?_
            refine lv_iadd hx hb dX7_mock_91 ?_
            obtain ⟨hi, hM⟩ := h_i hM
            refine a_iald (σ := aG (pI r68 112 ((107 : Int32) + x1).toNatClampNeg ((gI r68 112 ((107 : Int32) + x1).toNatClampNeg) + (1 : Int32)))) (o := 112) C hw rfl hi rfl dX7_mock_92 ?_
            cases h_e hM
            exact a_iret C hw dX7_mock_93
          · replace hM := h_f hc hM
            refine lv_iconst (v := (0 : Int32)) hx hb dX7_mock_65 (by decide) ?_
            cases h_e hM
            exact a_iret C hw dX7_mock_66
  · replace hM := h_t hc hM
    refine lv_iconst (v := (1 : Int32)) hx hb dX7_mock_14 (by decide) ?_
    refine lv_goto (tgt := 19) hx hb dX7_mock_15 (by decide) ?_
    refine lv_iconst (v := (1 : Int32)) hx hb dX7_mock_19 (by decide) ?_
    refine lv_iconst (v := (0 : Int32)) hx hb dX7_mock_20 (by decide) ?_
    obtain ⟨r21, hr21, hM⟩ := h_b hM
    refine a_callV (σ' := aG r21.2) (v := (some (.int r21.1))) (As := fun ad => [.int (1 : Int32), .int (1 : Int32), .int (0 : Int32)]) (rest := []) (o := 109) C hw (c_X7_bad l hr21) k_X7_bad wM_X7_164 ⟨⟨rfl, rfl⟩, ⟨Nat.le_of_ble_eq_true rfl, Nat.le_of_ble_eq_true rfl⟩⟩ rfl (by decide) rfl rfl rfl hl rfl (Nat.le_of_ble_eq_true rfl) dX7_mock_21 ⟨Nat.zero_le _, Nat.zero_le _⟩ (fun H locs hw => ?_)
    refine lv_if_ne (tgt := 65) hx hb dX7_mock_24 (by decide) (fun hc => ?_) (fun hc => ?_)
    · replace hM := h_f hc hM
      refine lv_iconst (v := (0 : Int32)) hx hb dX7_mock_65 (by decide) ?_
      cases h_e hM
      exact a_iret C hw dX7_mock_66
    · replace hM := h_t hc hM
      refine lv_aload_n hx hb dX7_mock_27 rfl (lv_at hl 0 rfl) ?_
      refine lv_aload_n hx hb dX7_mock_28 rfl (lv_at hl 0 rfl) ?_
      refine lv_iload_n hx hb dX7_mock_29 rfl (lv_at hl 1 rfl) ?_
      obtain ⟨r30, hr30, hM⟩ := h_b hM
      refine a_callV (σ' := aG r30.2) (v := (some (.int r30.1))) (As := fun ad => [.int x1]) (rest := [.ref (ad 109)]) (o := 109) C hw (c_X7_placeOf l hr30) k_X7_placeOf wM_X7_210 ⟨⟨rfl, rfl⟩, ⟨Nat.le_of_ble_eq_true rfl, Nat.le_of_ble_eq_true rfl⟩⟩ rfl (by decide) rfl rfl rfl hl rfl (Nat.le_of_ble_eq_true rfl) dX7_mock_30 ⟨Nat.zero_le _, Nat.zero_le _⟩ (fun H locs hw => ?_)
      refine lv_iconst (v := (-1 : Int32)) hx hb dX7_mock_33 (by decide) ?_
      refine lv_icmp_eq (tgt := 52) hx hb dX7_mock_34 (by decide) (fun hc => ?_) (fun hc => ?_)
      · replace hM := h_t hc hM
        refine lv_iconst (v := (1 : Int32)) hx hb dX7_mock_52 (by decide) ?_
        refine lv_goto (tgt := 57) hx hb dX7_mock_53 (by decide) ?_
        refine lv_iconst (v := (2 : Int32)) hx hb dX7_mock_57 (by decide) ?_
        refine lv_iconst (v := (2 : Int32)) hx hb dX7_mock_58 (by decide) ?_
        obtain ⟨r59, hr59, hM⟩ := h_b hM
        refine a_callV (σ' := aG r59.2) (v := (some (.int r59.1))) (As := fun ad => [.int (1 : Int32), .int (2 : Int32), .int (2 : Int32)]) (rest := []) (o := 109) C hw (c_X7_bad l hr59) k_X7_bad wM_X7_164 ⟨⟨rfl, rfl⟩, ⟨Nat.le_of_ble_eq_true rfl, Nat.le_of_ble_eq_true rfl⟩⟩ rfl (by decide) rfl rfl rfl hl rfl (Nat.le_of_ble_eq_true rfl) dX7_mock_59 ⟨Nat.zero_le _, Nat.zero_le _⟩ (fun H locs hw => ?_)
        refine lv_if_eq (tgt := 67) hx hb dX7_mock_62 (by decide) (fun hc => ?_) (fun hc => ?_)
        · replace hM := h_t hc hM
          refine lv_aload_n hx hb dX7_mock_67 rfl (lv_at hl 0 rfl) ?_
          obtain ⟨r68, hr68, hM⟩ := h_b hM
          refine a_callV (σ' := aG r68) (v := none) (As := fun ad => []) (rest := []) (o := 109) C hw (c_X7_remembers l hr68) k_X7_remembers wM_X7_173 ⟨⟨rfl, rfl⟩, ⟨Nat.le_of_ble_eq_true rfl, Nat.le_of_ble_eq_true rfl⟩⟩ rfl (by decide) rfl rfl rfl hl rfl (Nat.le_of_ble_eq_true rfl) dX7_mock_68 ⟨Nat.zero_le _, Nat.zero_le _⟩ (fun H locs hw => ?_)
          refine lv_aload_n hx hb dX7_mock_71 rfl (lv_at hl 0 rfl) ?_
          refine a_getp (q := 112) (σ := aG r68) (o := 109) (T := TX7) (N := 20) C wU_X7 hw rfl (by decide) rfl 9 (by decide) rfl wF_X7_20 (aG_P rfl rfl) dX7_mock_72 ?_
          refine lv_bipush (v := (107 : Int32)) hx hb dX7_mock_75 (by decide) ?_
          refine lv_iload_n hx hb dX7_mock_77 rfl (lv_at hl 1 rfl) ?_
          refine lv_iadd hx hb dX7_mock_78 ?_
          refine lv_dup2_11 hx hb dX7_mock_79 rfl rfl ?_
          obtain ⟨hi, hM⟩ := h_i hM
          refine a_iald (σ := aG r68) (o := 112) C hw rfl hi rfl dX7_mock_80 ?_
          refine lv_iconst (v := (1 : Int32)) hx hb dX7_mock_81 (by decide) ?_
          refine lv_iadd hx hb dX7_mock_82 ?_
          obtain ⟨hi, hM⟩ := h_i hM
          refine a_iast (σ := aG r68) (o := 112) C hw rfl hi rfl dX7_mock_83 (fun H locs hw => ?_)
          have hw : aW D dA ad adV (aG (pI r68 112 ((107 : Int32) + x1).toNatClampNeg ((gI r68 112 ((107 : Int32) + x1).toNatClampNeg) + (1 : Int32)))) A s H locs := hw
          refine lv_aload_n hx hb dX7_mock_84 rfl (lv_at hl 0 rfl) ?_
          refine a_getp (q := 112) (σ := aG (pI r68 112 ((107 : Int32) + x1).toNatClampNeg ((gI r68 112 ((107 : Int32) + x1).toNatClampNeg) + (1 : Int32)))) (o := 109) (T := TX7) (N := 20) C wU_X7 hw rfl (by decide) rfl 9 (by decide) rfl wF_X7_20 (aG_P rfl rfl) dX7_mock_85 ?_
          refine lv_bipush (v := (107 : Int32)) hx hb dX7_mock_88 (by decide) ?_
          refine lv_iload_n hx hb dX7_mock_90 rfl (lv_at hl 1 rfl) ?_
          refine lv_iadd hx hb dX7_mock_91 ?_
          obtain ⟨hi, hM⟩ := h_i hM
          refine a_iald (σ := aG (pI r68 112 ((107 : Int32) + x1).toNatClampNeg ((gI r68 112 ((107 : Int32) + x1).toNatClampNeg) + (1 : Int32)))) (o := 112) C hw rfl hi rfl dX7_mock_92 ?_
          cases h_e hM
          exact a_iret C hw dX7_mock_93
        · replace hM := h_f hc hM
          refine lv_iconst (v := (0 : Int32)) hx hb dX7_mock_65 (by decide) ?_
          cases h_e hM
          exact a_iret C hw dX7_mock_66
      · replace hM := h_f hc hM
        refine lv_aload_n hx hb dX7_mock_37 rfl (lv_at hl 0 rfl) ?_
        refine a_getp (q := 112) (σ := aG r30.2) (o := 109) (T := TX7) (N := 20) C wU_X7 hw rfl (by decide) rfl 9 (by decide) rfl wF_X7_20 (aG_P rfl rfl) dX7_mock_38 ?_
        refine lv_bipush (v := (107 : Int32)) hx hb dX7_mock_41 (by decide) ?_
        refine lv_iload_n hx hb dX7_mock_43 rfl (lv_at hl 1 rfl) ?_
        refine lv_iadd hx hb dX7_mock_44 ?_
        obtain ⟨hi, hM⟩ := h_i hM
        refine a_iald (σ := aG r30.2) (o := 112) C hw rfl hi rfl dX7_mock_45 ?_
        refine lv_sipush (v := (999 : Int32)) hx hb dX7_mock_46 (by decide) ?_
        refine lv_icmp_ne (tgt := 56) hx hb dX7_mock_49 (by decide) (fun hc => ?_) (fun hc => ?_)
        · replace hM := h_f hc hM
          refine lv_iconst (v := (0 : Int32)) hx hb dX7_mock_56 (by decide) ?_
          refine lv_iconst (v := (2 : Int32)) hx hb dX7_mock_57 (by decide) ?_
          refine lv_iconst (v := (2 : Int32)) hx hb dX7_mock_58 (by decide) ?_
          obtain ⟨r59, hr59, hM⟩ := h_b hM
          refine a_callV (σ' := aG r59.2) (v := (some (.int r59.1))) (As := fun ad => [.int (0 : Int32), .int (2 : Int32), .int (2 : Int32)]) (rest := []) (o := 109) C hw (c_X7_bad l hr59) k_X7_bad wM_X7_164 ⟨⟨rfl, rfl⟩, ⟨Nat.le_of_ble_eq_true rfl, Nat.le_of_ble_eq_true rfl⟩⟩ rfl (by decide) rfl rfl rfl hl rfl (Nat.le_of_ble_eq_true rfl) dX7_mock_59 ⟨Nat.zero_le _, Nat.zero_le _⟩ (fun H locs hw => ?_)
          refine lv_if_eq (tgt := 67) hx hb dX7_mock_62 (by decide) (fun hc => ?_) (fun hc => ?_)
          · replace hM := h_t hc hM
            refine lv_aload_n hx hb dX7_mock_67 rfl (lv_at hl 0 rfl) ?_
            obtain ⟨r68, hr68, hM⟩ := h_b hM
            refine a_callV (σ' := aG r68) (v := none) (As := fun ad => []) (rest := []) (o := 109) C hw (c_X7_remembers l hr68) k_X7_remembers wM_X7_173 ⟨⟨rfl, rfl⟩, ⟨Nat.le_of_ble_eq_true rfl, Nat.le_of_ble_eq_true rfl⟩⟩ rfl (by decide) rfl rfl rfl hl rfl (Nat.le_of_ble_eq_true rfl) dX7_mock_68 ⟨Nat.zero_le _, Nat.zero_le _⟩ (fun H locs hw => ?_)
            refine lv_aload_n hx hb dX7_mock_71 rfl (lv_at hl 0 rfl) ?_
            refine a_getp (q := 112) (σ := aG r68) (o := 109) (T := TX7) (N := 20) C wU_X7 hw rfl (by decide) rfl 9 (by decide) rfl wF_X7_20 (aG_P rfl rfl) dX7_mock_72 ?_
            refine lv_bipush (v := (107 : Int32)) hx hb dX7_mock_75 (by decide) ?_
            refine lv_iload_n hx hb dX7_mock_77 rfl (lv_at hl 1 rfl) ?_
            refine lv_iadd hx hb dX7_mock_78 ?_
            refine lv_dup2_11 hx hb dX7_mock_79 rfl rfl ?_
            obtain ⟨hi, hM⟩ := h_i hM
            refine a_iald (σ := aG r68) (o := 112) C hw rfl hi rfl dX7_mock_80 ?_
            refine lv_iconst (v := (1 : Int32)) hx hb dX7_mock_81 (by decide) ?_
            refine lv_iadd hx hb dX7_mock_82 ?_
            obtain ⟨hi, hM⟩ := h_i hM
            refine a_iast (σ := aG r68) (o := 112) C hw rfl hi rfl dX7_mock_83 (fun H locs hw => ?_)
            have hw : aW D dA ad adV (aG (pI r68 112 ((107 : Int32) + x1).toNatClampNeg ((gI r68 112 ((107 : Int32) + x1).toNatClampNeg) + (1 : Int32)))) A s H locs := hw
            refine lv_aload_n hx hb dX7_mock_84 rfl (lv_at hl 0 rfl) ?_
            refine a_getp (q := 112) (σ := aG (pI r68 112 ((107 : Int32) + x1).toNatClampNeg ((gI r68 112 ((107 : Int32) + x1).toNatClampNeg) + (1 : Int32)))) (o := 109) (T := TX7) (N := 20) C wU_X7 hw rfl (by decide) rfl 9 (by decide) rfl wF_X7_20 (aG_P rfl rfl) dX7_mock_85 ?_
            refine lv_bipush (v := (107 : Int32)) hx hb dX7_mock_88 (by decide) ?_
            refine lv_iload_n hx hb dX7_mock_90 rfl (lv_at hl 1 rfl) ?_
            refine lv_iadd hx hb dX7_mock_91 ?_
            obtain ⟨hi, hM⟩ := h_i hM
            refine a_iald (σ := aG (pI r68 112 ((107 : Int32) + x1).toNatClampNeg ((gI r68 112 ((107 : Int32) + x1).toNatClampNeg) + (1 : Int32)))) (o := 112) C hw rfl hi rfl dX7_mock_92 ?_
            cases h_e hM
            exact a_iret C hw dX7_mock_93
          · replace hM := h_f hc hM
            refine lv_iconst (v := (0 : Int32)) hx hb dX7_mock_65 (by decide) ?_
            cases h_e hM
            exact a_iret C hw dX7_mock_66
        · replace hM := h_t hc hM
          refine lv_iconst (v := (1 : Int32)) hx hb dX7_mock_52 (by decide) ?_
          refine lv_goto (tgt := 57) hx hb dX7_mock_53 (by decide) ?_
          refine lv_iconst (v := (2 : Int32)) hx hb dX7_mock_57 (by decide) ?_
          refine lv_iconst (v := (2 : Int32)) hx hb dX7_mock_58 (by decide) ?_
          obtain ⟨r59, hr59, hM⟩ := h_b hM
          refine a_callV (σ' := aG r59.2) (v := (some (.int r59.1))) (As := fun ad => [.int (1 : Int32), .int (2 : Int32), .int (2 : Int32)]) (rest := []) (o := 109) C hw (c_X7_bad l hr59) k_X7_bad wM_X7_164 ⟨⟨rfl, rfl⟩, ⟨Nat.le_of_ble_eq_true rfl, Nat.le_of_ble_eq_true rfl⟩⟩ rfl (by decide) rfl rfl rfl hl rfl (Nat.le_of_ble_eq_true rfl) dX7_mock_59 ⟨Nat.zero_le _, Nat.zero_le _⟩ (fun H locs hw => ?_)
          refine lv_if_eq (tgt := 67) hx hb dX7_mock_62 (by decide) (fun hc => ?_) (fun hc => ?_)
          · replace hM := h_t hc hM
            refine lv_aload_n hx hb dX7_mock_67 rfl (lv_at hl 0 rfl) ?_
            obtain ⟨r68, hr68, hM⟩ := h_b hM
            refine a_callV (σ' := aG r68) (v := none) (As := fun ad => []) (rest := []) (o := 109) C hw (c_X7_remembers l hr68) k_X7_remembers wM_X7_173 ⟨⟨rfl, rfl⟩, ⟨Nat.le_of_ble_eq_true rfl, Nat.le_of_ble_eq_true rfl⟩⟩ rfl (by decide) rfl rfl rfl hl rfl (Nat.le_of_ble_eq_true rfl) dX7_mock_68 ⟨Nat.zero_le _, Nat.zero_le _⟩ (fun H locs hw => ?_)
            refine lv_aload_n hx hb dX7_mock_71 rfl (lv_at hl 0 rfl) ?_
            refine a_getp (q := 112) (σ := aG r68) (o := 109) (T := TX7) (N := 20) C wU_X7 hw rfl (by decide) rfl 9 (by decide) rfl wF_X7_20 (aG_P rfl rfl) dX7_mock_72 ?_
            refine lv_bipush (v := (107 : Int32)) hx hb dX7_mock_75 (by decide) ?_
            refine lv_iload_n hx hb dX7_mock_77 rfl (lv_at hl 1 rfl) ?_
            refine lv_iadd hx hb dX7_mock_78 ?_
            refine lv_dup2_11 hx hb dX7_mock_79 rfl rfl ?_
            obtain ⟨hi, hM⟩ := h_i hM
            refine a_iald (σ := aG r68) (o := 112) C hw rfl hi rfl dX7_mock_80 ?_
            refine lv_iconst (v := (1 : Int32)) hx hb dX7_mock_81 (by decide) ?_
            refine lv_iadd hx hb dX7_mock_82 ?_
            obtain ⟨hi, hM⟩ := h_i hM
            refine a_iast (σ := aG r68) (o := 112) C hw rfl hi rfl dX7_mock_83 (fun H locs hw => ?_)
            have hw : aW D dA ad adV (aG (pI r68 112 ((107 : Int32) + x1).toNatClampNeg ((gI r68 112 ((107 : Int32) + x1).toNatClampNeg) + (1 : Int32)))) A s H locs := hw
            refine lv_aload_n hx hb dX7_mock_84 rfl (lv_at hl 0 rfl) ?_
            refine a_getp (q := 112) (σ := aG (pI r68 112 ((107 : Int32) + x1).toNatClampNeg ((gI r68 112 ((107 : Int32) + x1).toNatClampNeg) + (1 : Int32)))) (o := 109) (T := TX7) (N := 20) C wU_X7 hw rfl (by decide) rfl 9 (by decide) rfl wF_X7_20 (aG_P rfl rfl) dX7_mock_85 ?_
            refine lv_bipush (v := (107 : Int32)) hx hb dX7_mock_88 (by decide) ?_
            refine lv_iload_n hx hb dX7_mock_90 rfl (lv_at hl 1 rfl) ?_
            refine lv_iadd hx hb dX7_mock_91 ?_
            obtain ⟨hi, hM⟩ := h_i hM
            refine a_iald (σ := aG (pI r68 112 ((107 : Int32) + x1).toNatClampNeg ((gI r68 112 ((107 : Int32) + x1).toNatClampNeg) + (1 : Int32)))) (o := 112) C hw rfl hi rfl dX7_mock_92 ?_
            cases h_e hM
            exact a_iret C hw dX7_mock_93
          · replace hM := h_f hc hM
            refine lv_iconst (v := (0 : Int32)) hx hb dX7_mock_65 (by decide) ?_
            cases h_e hM
            exact a_iret C hw dX7_mock_66
def rm_X7_told : Room := { frames := 1, cells := 0, slots := 0, locals := 23 }
set_option maxHeartbeats 4000000 in
set_option maxRecDepth 100000 in
theorem tl_X7_told_35 (l : Launch) {p : Program} {e : Env} {s : State} {m : MethodId} {args : Array Value} {below : List Frame} {meth : Method} {c : Code} {D : va_G} {dA : Nat → ClassId} {ad adV : Nat → Nat} {A : Nat → Prop} (C : aX p m c cX7_told 4 s args aTs RX7 meth (some .int)) {res : Int32 × iS} : ∀ (n : Nat) (y1 : Int32) (y2 : Int32) (y3 : Int32) {ι : iS}, l_X7_told_35 n y1 y2 y3 ι = some res → ∀ {H : Heap} {locs : List Loc} {ls : Array Slot}, aW D dA ad adV (aG ι) A s H locs → lv_has ls 4 [(0, .ref (ad 109)), (1, .int y1), (2, .int y2), (3, .int y3)] → W p l e rm_X7_told s m args below meth c H locs 0 0 (MQ below (aQ D dA ad (aG res.2) A (some (.int res.1))) args s 0 0 A) (F0 m 35 ls []) := by
  have hx := C.1.1
  have hb := C.1.2.1
  have hml := C.1.2.2.1
  have hown := C.1.2.2.2.1
  have hts := C.1.2.2.2.2
  intro n
  induction n with
  | zero => intro y1 y2 y3 ι hM; simp [l_X7_told_35] at hM
  | succ n ih =>
    intro y1 y2 y3 ι hM H locs ls hw hl
    rw [l_X7_told_35] at hM
    refine lv_iload_n hx hb dX7_told_35 rfl (lv_at hl 3 rfl) ?_
    refine lv_bipush (v := (16 : Int32)) hx hb dX7_told_36 (by decide) ?_
    refine lv_icmp_ge (tgt := 59) hx hb dX7_told_38 (by decide) (fun hc => ?_) (fun hc => ?_)
    · replace hM := h_t hc hM
      refine lv_iload_n hx hb dX7_told_59 rfl (lv_at hl 1 rfl) ?_
      -- switch
      by_cases hc0 : y1 = 0
      · replace hM := h_t hc0 hM
        refine lv_tableIn (tgt := 116) hx hb dX7_told_60 (by rw [hc0]; decide) (by rw [hc0]; decide) (off := 56) (by rw [hc0]; decide) (by decide) ?_
        refine lv_aload_n hx hb dX7_told_116 rfl (lv_at hl 0 rfl) ?_
        refine a_getp (q := 112) (σ := aG ι) (o := 109) (T := TX7) (N := 20) C wU_X7 hw rfl (by decide) rfl 9 (by decide) rfl wF_X7_20 (aG_P rfl rfl) dX7_told_117 ?_
        refine lv_iconst (v := (0 : Int32)) hx hb dX7_told_120 (by decide) ?_
        refine a_iald (σ := aG ι) (o := 112) C hw rfl (aIn_v (by decide)) (show (0 : Int32).toNatClampNeg = 0 by decide) dX7_told_121 ?_
        cases h_e hM
        exact a_iret C hw dX7_told_122
      · replace hM := h_f hc0 hM
        by_cases hc1 : y1 = 1
        · replace hM := h_t hc1 hM
          refine lv_tableIn (tgt := 123) hx hb dX7_told_60 (by rw [hc1]; decide) (by rw [hc1]; decide) (off := 63) (by rw [hc1]; decide) (by decide) ?_
          refine lv_aload_n hx hb dX7_told_123 rfl (lv_at hl 0 rfl) ?_
          obtain ⟨r124, hr124, hM⟩ := h_b hM
          refine a_callV (σ' := aG r124.2) (v := (some (.int r124.1))) (As := fun ad => []) (rest := []) (o := 109) C hw (c_X7_persons l hr124) k_X7_persons wM_X7_180 ⟨⟨rfl, rfl⟩, ⟨Nat.le_of_ble_eq_true rfl, Nat.le_of_ble_eq_true rfl⟩⟩ rfl (by decide) rfl rfl rfl hl rfl (Nat.le_of_ble_eq_true rfl) dX7_told_124 ⟨Nat.zero_le _, Nat.zero_le _⟩ (fun H locs hw => ?_)
          cases h_e hM
          exact a_iret C hw dX7_told_127
        · replace hM := h_f hc1 hM
          by_cases hc2 : y1 = 2
          · replace hM := h_t hc2 hM
            refine lv_tableIn (tgt := 128) hx hb dX7_told_60 (by rw [hc2]; decide) (by rw [hc2]; decide) (off := 68) (by rw [hc2]; decide) (by decide) ?_
            refine lv_aload_n hx hb dX7_told_128 rfl (lv_at hl 0 rfl) ?_
            refine a_getp (q := 112) (σ := aG ι) (o := 109) (T := TX7) (N := 20) C wU_X7 hw rfl (by decide) rfl 9 (by decide) rfl wF_X7_20 (aG_P rfl rfl) dX7_told_129 ?_
            refine lv_iconst (v := (3 : Int32)) hx hb dX7_told_132 (by decide) ?_
            refine a_iald (σ := aG ι) (o := 112) C hw rfl (aIn_v (by decide)) (show (3 : Int32).toNatClampNeg = 3 by decide) dX7_told_133 ?_
            cases h_e hM
            exact a_iret C hw dX7_told_134
          · replace hM := h_f hc2 hM
            by_cases hc3 : y1 = 3
            · replace hM := h_t hc3 hM
              refine lv_tableIn (tgt := 147) hx hb dX7_told_60 (by rw [hc3]; decide) (by rw [hc3]; decide) (off := 87) (by rw [hc3]; decide) (by decide) ?_
              refine lv_aload_n hx hb dX7_told_147 rfl (lv_at hl 0 rfl) ?_
              refine a_getp (q := 112) (σ := aG ι) (o := 109) (T := TX7) (N := 20) C wU_X7 hw rfl (by decide) rfl 9 (by decide) rfl wF_X7_20 (aG_P rfl rfl) dX7_told_148 ?_
              refine lv_iconst (v := (4 : Int32)) hx hb dX7_told_151 (by decide) ?_
              refine lv_iload_n hx hb dX7_told_152 rfl (lv_at hl 1 rfl) ?_
              refine lv_iadd hx hb dX7_told_153 ?_
              refine lv_iconst (v := (3 : Int32)) hx hb dX7_told_154 (by decide) ?_
              refine lv_isub hx hb dX7_told_155 ?_
              obtain ⟨hi, hM⟩ := h_i hM
              refine a_iald (σ := aG ι) (o := 112) C hw rfl hi rfl dX7_told_156 ?_
              cases h_e hM
              exact a_iret C hw dX7_told_157
            · replace hM := h_f hc3 hM
              by_cases hc4 : y1 = 4
              · replace hM := h_t hc4 hM
                refine lv_tableIn (tgt := 147) hx hb dX7_told_60 (by rw [hc4]; decide) (by rw [hc4]; decide) (off := 87) (by rw [hc4]; decide) (by decide) ?_
                refine lv_aload_n hx hb dX7_told_147 rfl (lv_at hl 0 rfl) ?_
                refine a_getp (q := 112) (σ := aG ι) (o := 109) (T := TX7) (N := 20) C wU_X7 hw rfl (by decide) rfl 9 (by decide) rfl wF_X7_20 (aG_P rfl rfl) dX7_told_148 ?_
                refine lv_iconst (v := (4 : Int32)) hx hb dX7_told_151 (by decide) ?_
                refine lv_iload_n hx hb dX7_told_152 rfl (lv_at hl 1 rfl) ?_
                refine lv_iadd hx hb dX7_told_153 ?_
                refine lv_iconst (v := (3 : Int32)) hx hb dX7_told_154 (by decide) ?_
                refine lv_isub hx hb dX7_told_155 ?_
                obtain ⟨hi, hM⟩ := h_i hM
                refine a_iald (σ := aG ι) (o := 112) C hw rfl hi rfl dX7_told_156 ?_
                cases h_e hM
                exact a_iret C hw dX7_told_157
              · replace hM := h_f hc4 hM
                by_cases hc5 : y1 = 5
                · replace hM := h_t hc5 hM
                  refine lv_tableIn (tgt := 147) hx hb dX7_told_60 (by rw [hc5]; decide) (by rw [hc5]; decide) (off := 87) (by rw [hc5]; decide) (by decide) ?_
                  refine lv_aload_n hx hb dX7_told_147 rfl (lv_at hl 0 rfl) ?_
                  refine a_getp (q := 112) (σ := aG ι) (o := 109) (T := TX7) (N := 20) C wU_X7 hw rfl (by decide) rfl 9 (by decide) rfl wF_X7_20 (aG_P rfl rfl) dX7_told_148 ?_
                  refine lv_iconst (v := (4 : Int32)) hx hb dX7_told_151 (by decide) ?_
                  refine lv_iload_n hx hb dX7_told_152 rfl (lv_at hl 1 rfl) ?_
                  refine lv_iadd hx hb dX7_told_153 ?_
                  refine lv_iconst (v := (3 : Int32)) hx hb dX7_told_154 (by decide) ?_
                  refine lv_isub hx hb dX7_told_155 ?_
                  obtain ⟨hi, hM⟩ := h_i hM
                  refine a_iald (σ := aG ι) (o := 112) C hw rfl hi rfl dX7_told_156 ?_
                  cases h_e hM
                  exact a_iret C hw dX7_told_157
                · replace hM := h_f hc5 hM
                  by_cases hc6 : y1 = 6
                  · replace hM := h_t hc6 hM
                    refine lv_tableIn (tgt := 147) hx hb dX7_told_60 (by rw [hc6]; decide) (by rw [hc6]; decide) (off := 87) (by rw [hc6]; decide) (by decide) ?_
                    refine lv_aload_n hx hb dX7_told_147 rfl (lv_at hl 0 rfl) ?_
                    refine a_getp (q := 112) (σ := aG ι) (o := 109) (T := TX7) (N := 20) C wU_X7 hw rfl (by decide) rfl 9 (by decide) rfl wF_X7_20 (aG_P rfl rfl) dX7_told_148 ?_
                    refine lv_iconst (v := (4 : Int32)) hx hb dX7_told_151 (by decide) ?_
                    refine lv_iload_n hx hb dX7_told_152 rfl (lv_at hl 1 rfl) ?_
                    refine lv_iadd hx hb dX7_told_153 ?_
                    refine lv_iconst (v := (3 : Int32)) hx hb dX7_told_154 (by decide) ?_
                    refine lv_isub hx hb dX7_told_155 ?_
                    obtain ⟨hi, hM⟩ := h_i hM
                    refine a_iald (σ := aG ι) (o := 112) C hw rfl hi rfl dX7_told_156 ?_
                    cases h_e hM
                    exact a_iret C hw dX7_told_157
                  · replace hM := h_f hc6 hM
                    by_cases hc7 : y1 = 7
                    · replace hM := h_t hc7 hM
                      refine lv_tableIn (tgt := 135) hx hb dX7_told_60 (by rw [hc7]; decide) (by rw [hc7]; decide) (off := 75) (by rw [hc7]; decide) (by decide) ?_
                      refine lv_iload_n hx hb dX7_told_135 rfl (lv_at hl 2 rfl) ?_
                      cases h_e hM
                      exact a_iret C hw dX7_told_136
                    · replace hM := h_f hc7 hM
                      by_cases hc8 : y1 = 8
                      · replace hM := h_t hc8 hM
                        refine lv_tableIn (tgt := 137) hx hb dX7_told_60 (by rw [hc8]; decide) (by rw [hc8]; decide) (off := 77) (by rw [hc8]; decide) (by decide) ?_
                        refine lv_aload_n hx hb dX7_told_137 rfl (lv_at hl 0 rfl) ?_
                        refine a_geti (σ := aG ι) (o := 109) (T := TX7) (N := 20) C wU_X7 hw rfl (by decide) rfl 2 (by decide) rfl wF_X7_45 dX7_told_138 ?_
                        cases h_e hM
                        exact a_iret C hw dX7_told_141
                      · replace hM := h_f hc8 hM
                        by_cases hc9 : y1 = 9
                        · replace hM := h_t hc9 hM
                          refine lv_tableIn (tgt := 142) hx hb dX7_told_60 (by rw [hc9]; decide) (by rw [hc9]; decide) (off := 82) (by rw [hc9]; decide) (by decide) ?_
                          refine lv_aload_n hx hb dX7_told_142 rfl (lv_at hl 0 rfl) ?_
                          refine a_geti (σ := aG ι) (o := 109) (T := TX7) (N := 20) C wU_X7 hw rfl (by decide) rfl 12 (by decide) rfl wF_X7_204 dX7_told_143 ?_
                          cases h_e hM
                          exact a_iret C hw dX7_told_146
                        · replace hM := h_f hc9 hM
                          refine lv_tableOut (tgt := 147) hx hb dX7_told_60 (sw_out (lo := 0) (n := 10) (by decide) (by intro k hk; rcases (show k = 0 ∨ k = 1 ∨ k = 2 ∨ k = 3 ∨ k = 4 ∨ k = 5 ∨ k = 6 ∨ k = 7 ∨ k = 8 ∨ k = 9 by omega) with rfl | rfl | rfl | rfl | rfl | rfl | rfl | rfl | rfl | rfl <;> assumption)) (by decide) ?_
                          refine lv_aload_n hx hb dX7_told_147 rfl (lv_at hl 0 rfl) ?_
                          refine a_getp (q := 112) (σ := aG ι) (o := 109) (T := TX7) (N := 20) C wU_X7 hw rfl (by decide) rfl 9 (by decide) rfl wF_X7_20 (aG_P rfl rfl) dX7_told_148 ?_
                          refine lv_iconst (v := (4 : Int32)) hx hb dX7_told_151 (by decide) ?_
                          refine lv_iload_n hx hb dX7_told_152 rfl (lv_at hl 1 rfl) ?_
                          refine lv_iadd hx hb dX7_told_153 ?_
                          refine lv_iconst (v := (3 : Int32)) hx hb dX7_told_154 (by decide) ?_
                          refine lv_isub hx hb dX7_told_155 ?_
                          obtain ⟨hi, hM⟩ := h_i hM
                          refine a_iald (σ := aG ι) (o := 112) C hw rfl hi rfl dX7_told_156 ?_
                          cases h_e hM
                          exact a_iret C hw dX7_told_157
    · replace hM := h_f hc hM
      refine lv_iload_n hx hb dX7_told_41 rfl (lv_at hl 2 rfl) ?_
      refine lv_aload_n hx hb dX7_told_42 rfl (lv_at hl 0 rfl) ?_
      refine a_getp (q := 112) (σ := aG ι) (o := 109) (T := TX7) (N := 20) C wU_X7 hw rfl (by decide) rfl 9 (by decide) rfl wF_X7_20 (aG_P rfl rfl) dX7_told_43 ?_
      refine lv_bipush (v := (107 : Int32)) hx hb dX7_told_46 (by decide) ?_
      refine lv_iload_n hx hb dX7_told_48 rfl (lv_at hl 3 rfl) ?_
      refine lv_iadd hx hb dX7_told_49 ?_
      obtain ⟨hi, hM⟩ := h_i hM
      refine a_iald (σ := aG ι) (o := 112) C hw rfl hi rfl dX7_told_50 ?_
      refine lv_iadd hx hb dX7_told_51 ?_
      refine lv_istore_n (lv' := [(2, .int (y2 + (gI ι 112 ((107 : Int32) + y3).toNatClampNeg))), (0, .ref (ad 109)), (1, .int y1), (3, .int y3)]) hx hb dX7_told_52 rfl hl (by decide) rfl (fun ls hl => ?_)
      refine lv_iinc (v := (y3 + 1)) (lv' := [(3, .int (y3 + 1)), (2, .int (y2 + (gI ι 112 ((107 : Int32) + y3).toNatClampNeg))), (0, .ref (ad 109)), (1, .int y1)]) hx hb dX7_told_53 hl (k := 3) rfl rfl (by decide) rfl (fun ls hl => ?_)
      refine lv_goto (tgt := 35) hx hb dX7_told_56 (by decide) ?_
      exact ih (y1) ((y2 + (gI ι 112 ((107 : Int32) + y3).toNatClampNeg))) ((y3 + 1)) hM hw (lv_sub hl [2, 3, 1, 0] rfl)
theorem k_X7_told : aCal RX7 yX7_told cX7_told 4 (some .int) 1 := ⟨wI_yX7_told, wE_yX7_told, wZ_X7, wC_yX7_told, by decide +kernel⟩
set_option maxHeartbeats 4000000 in
set_option maxRecDepth 100000 in
theorem c_X7_told (l : Launch) {x1 : Int32} {ι : iS} {res : Int32 × iS} (hM : m_X7_told x1 ι = some res) : aM l yX7_told cX7_told 4 (some .int) rm_X7_told (fun ad => [.ref (ad 109), .int x1]) (aG ι) (some (.int res.1)) (aG res.2) := by
  refine aM.of (by decide) (fun _ => Nat.le_of_ble_eq_true rfl) ?_
  intro p e s m args below meth c D dA ad adV A ls C hw hl
  have C : aX p m c cX7_told 4 s args aTs RX7 meth (some .int) := C
  have hx := C.1.1
  have hb := C.1.2.1
  have hml := C.1.2.2.1
  have hown := C.1.2.2.2.1
  have hts := C.1.2.2.2.2
  have hl : lv_has ls 4 [(0, .ref (ad 109)), (1, .int x1)] := hl
  unfold m_X7_told at hM
  refine lv_aload_n hx hb dX7_told_0 rfl (lv_at hl 0 rfl) ?_
  refine lv_iconst (v := (0 : Int32)) hx hb dX7_told_1 (by decide) ?_
  refine a_puti (ty := .int) (σ := aG ι) (o := 109) (T := TX7) (N := 20) (ty0 := tyX7) C wU_X7 tyX7_ok nmX7 hw rfl (by decide) rfl 0 (by decide) rfl wF_X7_42 rfl (by decide +kernel) rfl rfl dX7_told_2 (fun H locs hw => ?_)
  have hw : aW D dA ad adV (aG (pI ι 109 0 (0 : Int32))) A s H locs := hw
  refine lv_aload_n hx hb dX7_told_5 rfl (lv_at hl 0 rfl) ?_
  refine lv_iload_n hx hb dX7_told_6 rfl (lv_at hl 1 rfl) ?_
  refine lv_iconst (v := (0 : Int32)) hx hb dX7_told_7 (by decide) ?_
  refine lv_bipush (v := (9 : Int32)) hx hb dX7_told_8 (by decide) ?_
  obtain ⟨r10, hr10, hM⟩ := h_b hM
  refine a_callS  (σ' := aG r10.2) (v := (some (.int r10.1))) (as := fun ad => [.int x1, .int (0 : Int32), .int (9 : Int32)]) (rest := [.ref (ad 109)]) C hw (c_X7_in l hr10) k_X7_in wM_X7_81 ⟨⟨rfl, rfl⟩, ⟨Nat.le_of_ble_eq_true rfl, Nat.le_of_ble_eq_true rfl⟩⟩ rfl hl rfl (Nat.le_of_ble_eq_true rfl) dX7_told_10 ⟨Nat.zero_le _, Nat.zero_le _⟩ (fun H locs hw => ?_)
  refine lv_if_ne (tgt := 20) hx hb dX7_told_13 (by decide) (fun hc => ?_) (fun hc => ?_)
  · replace hM := h_f hc hM
    refine lv_iconst (v := (0 : Int32)) hx hb dX7_told_20 (by decide) ?_
    refine lv_iconst (v := (1 : Int32)) hx hb dX7_told_21 (by decide) ?_
    refine lv_iconst (v := (1 : Int32)) hx hb dX7_told_22 (by decide) ?_
    obtain ⟨r23, hr23, hM⟩ := h_b hM
    refine a_callV (σ' := aG r23.2) (v := (some (.int r23.1))) (As := fun ad => [.int (0 : Int32), .int (1 : Int32), .int (1 : Int32)]) (rest := []) (o := 109) C hw (c_X7_bad l hr23) k_X7_bad wM_X7_164 ⟨⟨rfl, rfl⟩, ⟨Nat.le_of_ble_eq_true rfl, Nat.le_of_ble_eq_true rfl⟩⟩ rfl (by decide) rfl rfl rfl hl rfl (Nat.le_of_ble_eq_true rfl) dX7_told_23 ⟨Nat.zero_le _, Nat.zero_le _⟩ (fun H locs hw => ?_)
    refine lv_if_eq (tgt := 31) hx hb dX7_told_26 (by decide) (fun hc => ?_) (fun hc => ?_)
    · replace hM := h_t hc hM
      refine lv_iconst (v := (0 : Int32)) hx hb dX7_told_31 (by decide) ?_
      refine lv_istore_n (lv' := [(2, .int (0 : Int32)), (0, .ref (ad 109)), (1, .int x1)]) hx hb dX7_told_32 rfl hl (by decide) rfl (fun ls hl => ?_)
      refine lv_iconst (v := (0 : Int32)) hx hb dX7_told_33 (by decide) ?_
      refine lv_istore_n (lv' := [(3, .int (0 : Int32)), (2, .int (0 : Int32)), (0, .ref (ad 109)), (1, .int x1)]) hx hb dX7_told_34 rfl hl (by decide) rfl (fun ls hl => ?_)
      exact tl_X7_told_35 l C aF (x1) ((0 : Int32)) ((0 : Int32)) hM hw (lv_sub hl [2, 3, 1, 0] rfl)
    · replace hM := h_f hc hM
      refine lv_iconst (v := (0 : Int32)) hx hb dX7_told_29 (by decide) ?_
      cases h_e hM
      exact a_iret C hw dX7_told_30
  · replace hM := h_t hc hM
    refine lv_iconst (v := (1 : Int32)) hx hb dX7_told_16 (by decide) ?_
    refine lv_goto (tgt := 21) hx hb dX7_told_17 (by decide) ?_
    refine lv_iconst (v := (1 : Int32)) hx hb dX7_told_21 (by decide) ?_
    refine lv_iconst (v := (1 : Int32)) hx hb dX7_told_22 (by decide) ?_
    obtain ⟨r23, hr23, hM⟩ := h_b hM
    refine a_callV (σ' := aG r23.2) (v := (some (.int r23.1))) (As := fun ad => [.int (1 : Int32), .int (1 : Int32), .int (1 : Int32)]) (rest := []) (o := 109) C hw (c_X7_bad l hr23) k_X7_bad wM_X7_164 ⟨⟨rfl, rfl⟩, ⟨Nat.le_of_ble_eq_true rfl, Nat.le_of_ble_eq_true rfl⟩⟩ rfl (by decide) rfl rfl rfl hl rfl (Nat.le_of_ble_eq_true rfl) dX7_told_23 ⟨Nat.zero_le _, Nat.zero_le _⟩ (fun H locs hw => ?_)
    refine lv_if_eq (tgt := 31) hx hb dX7_told_26 (by decide) (fun hc => ?_) (fun hc => ?_)
    · replace hM := h_t hc hM
      refine lv_iconst (v := (0 : Int32)) hx hb dX7_told_31 (by decide) ?_
      refine lv_istore_n (lv' := [(2, .int (0 : Int32)), (0, .ref (ad 109)), (1, .int x1)]) hx hb dX7_told_32 rfl hl (by decide) rfl (fun ls hl => ?_)
      refine lv_iconst (v := (0 : Int32)) hx hb dX7_told_33 (by decide) ?_
      refine lv_istore_n (lv' := [(3, .int (0 : Int32)), (2, .int (0 : Int32)), (0, .ref (ad 109)), (1, .int x1)]) hx hb dX7_told_34 rfl hl (by decide) rfl (fun ls hl => ?_)
      exact tl_X7_told_35 l C aF (x1) ((0 : Int32)) ((0 : Int32)) hM hw (lv_sub hl [2, 3, 1, 0] rfl)
    · replace hM := h_f hc hM
      refine lv_iconst (v := (0 : Int32)) hx hb dX7_told_29 (by decide) ?_
      cases h_e hM
      exact a_iret C hw dX7_told_30
def rm_X7_trait : Room := { frames := 2, cells := 0, slots := 0, locals := 43 }
theorem k_X7_trait : aCal RX7 yX7_trait cX7_trait 3 (some .int) 2 := ⟨wI_yX7_trait, wE_yX7_trait, wZ_X7, wC_yX7_trait, by decide +kernel⟩
set_option maxHeartbeats 4000000 in
set_option maxRecDepth 100000 in
theorem c_X7_trait (l : Launch) {x1 : Int32} {x2 : Int32} {ι : iS} {res : Int32 × iS} (hM : m_X7_trait x1 x2 ι = some res) : aM l yX7_trait cX7_trait 3 (some .int) rm_X7_trait (fun ad => [.ref (ad 109), .int x1, .int x2]) (aG ι) (some (.int res.1)) (aG res.2) := by
  refine aM.of (by decide) (fun _ => Nat.le_of_ble_eq_true rfl) ?_
  intro p e s m args below meth c D dA ad adV A ls C hw hl
  have C : aX p m c cX7_trait 3 s args aTs RX7 meth (some .int) := C
  have hx := C.1.1
  have hb := C.1.2.1
  have hml := C.1.2.2.1
  have hown := C.1.2.2.2.1
  have hts := C.1.2.2.2.2
  have hl : lv_has ls 3 [(0, .ref (ad 109)), (1, .int x1), (2, .int x2)] := hl
  unfold m_X7_trait at hM
  refine lv_aload_n hx hb dX7_trait_0 rfl (lv_at hl 0 rfl) ?_
  refine lv_iconst (v := (0 : Int32)) hx hb dX7_trait_1 (by decide) ?_
  refine a_puti (ty := .int) (σ := aG ι) (o := 109) (T := TX7) (N := 20) (ty0 := tyX7) C wU_X7 tyX7_ok nmX7 hw rfl (by decide) rfl 0 (by decide) rfl wF_X7_42 rfl (by decide +kernel) rfl rfl dX7_trait_2 (fun H locs hw => ?_)
  have hw : aW D dA ad adV (aG (pI ι 109 0 (0 : Int32))) A s H locs := hw
  refine lv_aload_n hx hb dX7_trait_5 rfl (lv_at hl 0 rfl) ?_
  refine lv_aload_n hx hb dX7_trait_6 rfl (lv_at hl 0 rfl) ?_
  refine lv_iload_n hx hb dX7_trait_7 rfl (lv_at hl 1 rfl) ?_
  obtain ⟨r8, hr8, hM⟩ := h_b hM
  refine a_callV (σ' := aG r8.2) (v := (some (.int r8.1))) (As := fun ad => [.int x1]) (rest := [.ref (ad 109)]) (o := 109) C hw (c_X7_isTrait l hr8) k_X7_isTrait wM_X7_216 ⟨⟨rfl, rfl⟩, ⟨Nat.le_of_ble_eq_true rfl, Nat.le_of_ble_eq_true rfl⟩⟩ rfl (by decide) rfl rfl rfl hl rfl (Nat.le_of_ble_eq_true rfl) dX7_trait_8 ⟨Nat.zero_le _, Nat.zero_le _⟩ (fun H locs hw => ?_)
  refine lv_if_ne (tgt := 18) hx hb dX7_trait_11 (by decide) (fun hc => ?_) (fun hc => ?_)
  · replace hM := h_f hc hM
    refine lv_iconst (v := (0 : Int32)) hx hb dX7_trait_18 (by decide) ?_
    refine lv_iconst (v := (1 : Int32)) hx hb dX7_trait_19 (by decide) ?_
    refine lv_iconst (v := (0 : Int32)) hx hb dX7_trait_20 (by decide) ?_
    obtain ⟨r21, hr21, hM⟩ := h_b hM
    refine a_callV (σ' := aG r21.2) (v := (some (.int r21.1))) (As := fun ad => [.int (0 : Int32), .int (1 : Int32), .int (0 : Int32)]) (rest := []) (o := 109) C hw (c_X7_bad l hr21) k_X7_bad wM_X7_164 ⟨⟨rfl, rfl⟩, ⟨Nat.le_of_ble_eq_true rfl, Nat.le_of_ble_eq_true rfl⟩⟩ rfl (by decide) rfl rfl rfl hl rfl (Nat.le_of_ble_eq_true rfl) dX7_trait_21 ⟨Nat.zero_le _, Nat.zero_le _⟩ (fun H locs hw => ?_)
    refine lv_if_ne (tgt := 50) hx hb dX7_trait_24 (by decide) (fun hc => ?_) (fun hc => ?_)
    · replace hM := h_f hc hM
      refine lv_iconst (v := (0 : Int32)) hx hb dX7_trait_50 (by decide) ?_
      cases h_e hM
      exact a_iret C hw dX7_trait_51
    · replace hM := h_t hc hM
      refine lv_aload_n hx hb dX7_trait_27 rfl (lv_at hl 0 rfl) ?_
      refine lv_iload_n hx hb dX7_trait_28 rfl (lv_at hl 2 rfl) ?_
      refine lv_iconst (v := (0 : Int32)) hx hb dX7_trait_29 (by decide) ?_
      refine lv_iconst (v := (1 : Int32)) hx hb dX7_trait_30 (by decide) ?_
      obtain ⟨r31, hr31, hM⟩ := h_b hM
      refine a_callS  (σ' := aG r31.2) (v := (some (.int r31.1))) (as := fun ad => [.int x2, .int (0 : Int32), .int (1 : Int32)]) (rest := [.ref (ad 109)]) C hw (c_X7_in l hr31) k_X7_in wM_X7_81 ⟨⟨rfl, rfl⟩, ⟨Nat.le_of_ble_eq_true rfl, Nat.le_of_ble_eq_true rfl⟩⟩ rfl hl rfl (Nat.le_of_ble_eq_true rfl) dX7_trait_31 ⟨Nat.zero_le _, Nat.zero_le _⟩ (fun H locs hw => ?_)
      refine lv_if_ne (tgt := 41) hx hb dX7_trait_34 (by decide) (fun hc => ?_) (fun hc => ?_)
      · replace hM := h_f hc hM
        refine lv_iconst (v := (0 : Int32)) hx hb dX7_trait_41 (by decide) ?_
        refine lv_iconst (v := (2 : Int32)) hx hb dX7_trait_42 (by decide) ?_
        refine lv_iconst (v := (1 : Int32)) hx hb dX7_trait_43 (by decide) ?_
        obtain ⟨r44, hr44, hM⟩ := h_b hM
        refine a_callV (σ' := aG r44.2) (v := (some (.int r44.1))) (As := fun ad => [.int (0 : Int32), .int (2 : Int32), .int (1 : Int32)]) (rest := []) (o := 109) C hw (c_X7_bad l hr44) k_X7_bad wM_X7_164 ⟨⟨rfl, rfl⟩, ⟨Nat.le_of_ble_eq_true rfl, Nat.le_of_ble_eq_true rfl⟩⟩ rfl (by decide) rfl rfl rfl hl rfl (Nat.le_of_ble_eq_true rfl) dX7_trait_44 ⟨Nat.zero_le _, Nat.zero_le _⟩ (fun H locs hw => ?_)
        refine lv_if_eq (tgt := 52) hx hb dX7_trait_47 (by decide) (fun hc => ?_) (fun hc => ?_)
        · replace hM := h_t hc hM
          refine lv_aload_n hx hb dX7_trait_52 rfl (lv_at hl 0 rfl) ?_
          refine a_getp (q := 112) (σ := aG r44.2) (o := 109) (T := TX7) (N := 20) C wU_X7 hw rfl (by decide) rfl 9 (by decide) rfl wF_X7_20 (aG_P rfl rfl) dX7_trait_53 ?_
          refine lv_iload_n hx hb dX7_trait_56 rfl (lv_at hl 2 rfl) ?_
          refine lv_if_ne (tgt := 65) hx hb dX7_trait_57 (by decide) (fun hc => ?_) (fun hc => ?_)
          · replace hM := h_f hc hM
            refine lv_bipush (v := (94 : Int32)) hx hb dX7_trait_65 (by decide) ?_
            refine lv_iload_n hx hb dX7_trait_67 rfl (lv_at hl 1 rfl) ?_
            refine lv_iadd hx hb dX7_trait_68 ?_
            obtain ⟨hi, hM⟩ := h_i hM
            refine a_iald (σ := aG r44.2) (o := 112) C hw rfl hi rfl dX7_trait_69 ?_
            cases h_e hM
            exact a_iret C hw dX7_trait_70
          · replace hM := h_t hc hM
            refine lv_bipush (v := (89 : Int32)) hx hb dX7_trait_60 (by decide) ?_
            refine lv_goto (tgt := 67) hx hb dX7_trait_62 (by decide) ?_
            refine lv_iload_n hx hb dX7_trait_67 rfl (lv_at hl 1 rfl) ?_
            refine lv_iadd hx hb dX7_trait_68 ?_
            obtain ⟨hi, hM⟩ := h_i hM
            refine a_iald (σ := aG r44.2) (o := 112) C hw rfl hi rfl dX7_trait_69 ?_
            cases h_e hM
            exact a_iret C hw dX7_trait_70
        · replace hM := h_f hc hM
          refine lv_iconst (v := (0 : Int32)) hx hb dX7_trait_50 (by decide) ?_
          cases h_e hM
          exact a_iret C hw dX7_trait_51
      · replace hM := h_t hc hM
        refine lv_iconst (v := (1 : Int32)) hx hb dX7_trait_37 (by decide) ?_
        refine lv_goto (tgt := 42) hx hb dX7_trait_38 (by decide) ?_
        refine lv_iconst (v := (2 : Int32)) hx hb dX7_trait_42 (by decide) ?_
        refine lv_iconst (v := (1 : Int32)) hx hb dX7_trait_43 (by decide) ?_
        obtain ⟨r44, hr44, hM⟩ := h_b hM
        refine a_callV (σ' := aG r44.2) (v := (some (.int r44.1))) (As := fun ad => [.int (1 : Int32), .int (2 : Int32), .int (1 : Int32)]) (rest := []) (o := 109) C hw (c_X7_bad l hr44) k_X7_bad wM_X7_164 ⟨⟨rfl, rfl⟩, ⟨Nat.le_of_ble_eq_true rfl, Nat.le_of_ble_eq_true rfl⟩⟩ rfl (by decide) rfl rfl rfl hl rfl (Nat.le_of_ble_eq_true rfl) dX7_trait_44 ⟨Nat.zero_le _, Nat.zero_le _⟩ (fun H locs hw => ?_)
        refine lv_if_eq (tgt := 52) hx hb dX7_trait_47 (by decide) (fun hc => ?_) (fun hc => ?_)
        · replace hM := h_t hc hM
          refine lv_aload_n hx hb dX7_trait_52 rfl (lv_at hl 0 rfl) ?_
          refine a_getp (q := 112) (σ := aG r44.2) (o := 109) (T := TX7) (N := 20) C wU_X7 hw rfl (by decide) rfl 9 (by decide) rfl wF_X7_20 (aG_P rfl rfl) dX7_trait_53 ?_
          refine lv_iload_n hx hb dX7_trait_56 rfl (lv_at hl 2 rfl) ?_
          refine lv_if_ne (tgt := 65) hx hb dX7_trait_57 (by decide) (fun hc => ?_) (fun hc => ?_)
          · replace hM := h_f hc hM
            refine lv_bipush (v := (94 : Int32)) hx hb dX7_trait_65 (by decide) ?_
            refine lv_iload_n hx hb dX7_trait_67 rfl (lv_at hl 1 rfl) ?_
            refine lv_iadd hx hb dX7_trait_68 ?_
            obtain ⟨hi, hM⟩ := h_i hM
            refine a_iald (σ := aG r44.2) (o := 112) C hw rfl hi rfl dX7_trait_69 ?_
            cases h_e hM
            exact a_iret C hw dX7_trait_70
          · replace hM := h_t hc hM
            refine lv_bipush (v := (89 : Int32)) hx hb dX7_trait_60 (by decide) ?_
            refine lv_goto (tgt := 67) hx hb dX7_trait_62 (by decide) ?_
            refine lv_iload_n hx hb dX7_trait_67 rfl (lv_at hl 1 rfl) ?_
            refine lv_iadd hx hb dX7_trait_68 ?_
            obtain ⟨hi, hM⟩ := h_i hM
            refine a_iald (σ := aG r44.2) (o := 112) C hw rfl hi rfl dX7_trait_69 ?_
            cases h_e hM
            exact a_iret C hw dX7_trait_70
        · replace hM := h_f hc hM
          refine lv_iconst (v := (0 : Int32)) hx hb dX7_trait_50 (by decide) ?_
          cases h_e hM
          exact a_iret C hw dX7_trait_51
  · replace hM := h_t hc hM
    refine lv_iconst (v := (1 : Int32)) hx hb dX7_trait_14 (by decide) ?_
    refine lv_goto (tgt := 19) hx hb dX7_trait_15 (by decide) ?_
    refine lv_iconst (v := (1 : Int32)) hx hb dX7_trait_19 (by decide) ?_
    refine lv_iconst (v := (0 : Int32)) hx hb dX7_trait_20 (by decide) ?_
    obtain ⟨r21, hr21, hM⟩ := h_b hM
    refine a_callV (σ' := aG r21.2) (v := (some (.int r21.1))) (As := fun ad => [.int (1 : Int32), .int (1 : Int32), .int (0 : Int32)]) (rest := []) (o := 109) C hw (c_X7_bad l hr21) k_X7_bad wM_X7_164 ⟨⟨rfl, rfl⟩, ⟨Nat.le_of_ble_eq_true rfl, Nat.le_of_ble_eq_true rfl⟩⟩ rfl (by decide) rfl rfl rfl hl rfl (Nat.le_of_ble_eq_true rfl) dX7_trait_21 ⟨Nat.zero_le _, Nat.zero_le _⟩ (fun H locs hw => ?_)
    refine lv_if_ne (tgt := 50) hx hb dX7_trait_24 (by decide) (fun hc => ?_) (fun hc => ?_)
    · replace hM := h_f hc hM
      refine lv_iconst (v := (0 : Int32)) hx hb dX7_trait_50 (by decide) ?_
      cases h_e hM
      exact a_iret C hw dX7_trait_51
    · replace hM := h_t hc hM
      refine lv_aload_n hx hb dX7_trait_27 rfl (lv_at hl 0 rfl) ?_
      refine lv_iload_n hx hb dX7_trait_28 rfl (lv_at hl 2 rfl) ?_
      refine lv_iconst (v := (0 : Int32)) hx hb dX7_trait_29 (by decide) ?_
      refine lv_iconst (v := (1 : Int32)) hx hb dX7_trait_30 (by decide) ?_
      obtain ⟨r31, hr31, hM⟩ := h_b hM
      refine a_callS  (σ' := aG r31.2) (v := (some (.int r31.1))) (as := fun ad => [.int x2, .int (0 : Int32), .int (1 : Int32)]) (rest := [.ref (ad 109)]) C hw (c_X7_in l hr31) k_X7_in wM_X7_81 ⟨⟨rfl, rfl⟩, ⟨Nat.le_of_ble_eq_true rfl, Nat.le_of_ble_eq_true rfl⟩⟩ rfl hl rfl (Nat.le_of_ble_eq_true rfl) dX7_trait_31 ⟨Nat.zero_le _, Nat.zero_le _⟩ (fun H locs hw => ?_)
      refine lv_if_ne (tgt := 41) hx hb dX7_trait_34 (by decide) (fun hc => ?_) (fun hc => ?_)
      · replace hM := h_f hc hM
        refine lv_iconst (v := (0 : Int32)) hx hb dX7_trait_41 (by decide) ?_
        refine lv_iconst (v := (2 : Int32)) hx hb dX7_trait_42 (by decide) ?_
        refine lv_iconst (v := (1 : Int32)) hx hb dX7_trait_43 (by decide) ?_
        obtain ⟨r44, hr44, hM⟩ := h_b hM
        refine a_callV (σ' := aG r44.2) (v := (some (.int r44.1))) (As := fun ad => [.int (0 : Int32), .int (2 : Int32), .int (1 : Int32)]) (rest := []) (o := 109) C hw (c_X7_bad l hr44) k_X7_bad wM_X7_164 ⟨⟨rfl, rfl⟩, ⟨Nat.le_of_ble_eq_true rfl, Nat.le_of_ble_eq_true rfl⟩⟩ rfl (by decide) rfl rfl rfl hl rfl (Nat.le_of_ble_eq_true rfl) dX7_trait_44 ⟨Nat.zero_le _, Nat.zero_le _⟩ (fun H locs hw => ?_)
        refine lv_if_eq (tgt := 52) hx hb dX7_trait_47 (by decide) (fun hc => ?_) (fun hc => ?_)
        · replace hM := h_t hc hM
          refine lv_aload_n hx hb dX7_trait_52 rfl (lv_at hl 0 rfl) ?_
          refine a_getp (q := 112) (σ := aG r44.2) (o := 109) (T := TX7) (N := 20) C wU_X7 hw rfl (by decide) rfl 9 (by decide) rfl wF_X7_20 (aG_P rfl rfl) dX7_trait_53 ?_
          refine lv_iload_n hx hb dX7_trait_56 rfl (lv_at hl 2 rfl) ?_
          refine lv_if_ne (tgt := 65) hx hb dX7_trait_57 (by decide) (fun hc => ?_) (fun hc => ?_)
          · replace hM := h_f hc hM
            refine lv_bipush (v := (94 : Int32)) hx hb dX7_trait_65 (by decide) ?_
            refine lv_iload_n hx hb dX7_trait_67 rfl (lv_at hl 1 rfl) ?_
            refine lv_iadd hx hb dX7_trait_68 ?_
            obtain ⟨hi, hM⟩ := h_i hM
            refine a_iald (σ := aG r44.2) (o := 112) C hw rfl hi rfl dX7_trait_69 ?_
            cases h_e hM
            exact a_iret C hw dX7_trait_70
          · replace hM := h_t hc hM
            refine lv_bipush (v := (89 : Int32)) hx hb dX7_trait_60 (by decide) ?_
            refine lv_goto (tgt := 67) hx hb dX7_trait_62 (by decide) ?_
            refine lv_iload_n hx hb dX7_trait_67 rfl (lv_at hl 1 rfl) ?_
            refine lv_iadd hx hb dX7_trait_68 ?_
            obtain ⟨hi, hM⟩ := h_i hM
            refine a_iald (σ := aG r44.2) (o := 112) C hw rfl hi rfl dX7_trait_69 ?_
            cases h_e hM
            exact a_iret C hw dX7_trait_70
        · replace hM := h_f hc hM
          refine lv_iconst (v := (0 : Int32)) hx hb dX7_trait_50 (by decide) ?_
          cases h_e hM
          exact a_iret C hw dX7_trait_51
      · replace hM := h_t hc hM
        refine lv_iconst (v := (1 : Int32)) hx hb dX7_trait_37 (by decide) ?_
        refine lv_goto (tgt := 42) hx hb dX7_trait_38 (by decide) ?_
        refine lv_iconst (v := (2 : Int32)) hx hb dX7_trait_42 (by decide) ?_
        refine lv_iconst (v := (1 : Int32)) hx hb dX7_trait_43 (by decide) ?_
        obtain ⟨r44, hr44, hM⟩ := h_b hM
        refine a_callV (σ' := aG r44.2) (v := (some (.int r44.1))) (As := fun ad => [.int (1 : Int32), .int (2 : Int32), .int (1 : Int32)]) (rest := []) (o := 109) C hw (c_X7_bad l hr44) k_X7_bad wM_X7_164 ⟨⟨rfl, rfl⟩, ⟨Nat.le_of_ble_eq_true rfl, Nat.le_of_ble_eq_true rfl⟩⟩ rfl (by decide) rfl rfl rfl hl rfl (Nat.le_of_ble_eq_true rfl) dX7_trait_44 ⟨Nat.zero_le _, Nat.zero_le _⟩ (fun H locs hw => ?_)
        refine lv_if_eq (tgt := 52) hx hb dX7_trait_47 (by decide) (fun hc => ?_) (fun hc => ?_)
        · replace hM := h_t hc hM
          refine lv_aload_n hx hb dX7_trait_52 rfl (lv_at hl 0 rfl) ?_
          refine a_getp (q := 112) (σ := aG r44.2) (o := 109) (T := TX7) (N := 20) C wU_X7 hw rfl (by decide) rfl 9 (by decide) rfl wF_X7_20 (aG_P rfl rfl) dX7_trait_53 ?_
          refine lv_iload_n hx hb dX7_trait_56 rfl (lv_at hl 2 rfl) ?_
          refine lv_if_ne (tgt := 65) hx hb dX7_trait_57 (by decide) (fun hc => ?_) (fun hc => ?_)
          · replace hM := h_f hc hM
            refine lv_bipush (v := (94 : Int32)) hx hb dX7_trait_65 (by decide) ?_
            refine lv_iload_n hx hb dX7_trait_67 rfl (lv_at hl 1 rfl) ?_
            refine lv_iadd hx hb dX7_trait_68 ?_
            obtain ⟨hi, hM⟩ := h_i hM
            refine a_iald (σ := aG r44.2) (o := 112) C hw rfl hi rfl dX7_trait_69 ?_
            cases h_e hM
            exact a_iret C hw dX7_trait_70
          · replace hM := h_t hc hM
            refine lv_bipush (v := (89 : Int32)) hx hb dX7_trait_60 (by decide) ?_
            refine lv_goto (tgt := 67) hx hb dX7_trait_62 (by decide) ?_
            refine lv_iload_n hx hb dX7_trait_67 rfl (lv_at hl 1 rfl) ?_
            refine lv_iadd hx hb dX7_trait_68 ?_
            obtain ⟨hi, hM⟩ := h_i hM
            refine a_iald (σ := aG r44.2) (o := 112) C hw rfl hi rfl dX7_trait_69 ?_
            cases h_e hM
            exact a_iret C hw dX7_trait_70
        · replace hM := h_f hc hM
          refine lv_iconst (v := (0 : Int32)) hx hb dX7_trait_50 (by decide) ?_
          cases h_e hM
          exact a_iret C hw dX7_trait_51
def rm_X7_value : Room := { frames := 2, cells := 0, slots := 0, locals := 43 }
theorem k_X7_value : aCal RX7 yX7_value cX7_value 3 (some .int) 2 := ⟨wI_yX7_value, wE_yX7_value, wZ_X7, wC_yX7_value, by decide +kernel⟩
set_option maxHeartbeats 4000000 in
set_option maxRecDepth 100000 in
theorem c_X7_value (l : Launch) {x1 : Int32} {x2 : Int32} {ι : iS} {res : Int32 × iS} (hM : m_X7_value x1 x2 ι = some res) : aM l yX7_value cX7_value 3 (some .int) rm_X7_value (fun ad => [.ref (ad 109), .int x1, .int x2]) (aG ι) (some (.int res.1)) (aG res.2) := by
  refine aM.of (by decide) (fun _ => Nat.le_of_ble_eq_true rfl) ?_
  intro p e s m args below meth c D dA ad adV A ls C hw hl
  have C : aX p m c cX7_value 3 s args aTs RX7 meth (some .int) := C
  have hx := C.1.1
  have hb := C.1.2.1
  have hml := C.1.2.2.1
  have hown := C.1.2.2.2.1
  have hts := C.1.2.2.2.2
  have hl : lv_has ls 3 [(0, .ref (ad 109)), (1, .int x1), (2, .int x2)] := hl
  unfold m_X7_value at hM
  refine lv_aload_n hx hb dX7_value_0 rfl (lv_at hl 0 rfl) ?_
  refine lv_iconst (v := (0 : Int32)) hx hb dX7_value_1 (by decide) ?_
  refine a_puti (ty := .int) (σ := aG ι) (o := 109) (T := TX7) (N := 20) (ty0 := tyX7) C wU_X7 tyX7_ok nmX7 hw rfl (by decide) rfl 0 (by decide) rfl wF_X7_42 rfl (by decide +kernel) rfl rfl dX7_value_2 (fun H locs hw => ?_)
  have hw : aW D dA ad adV (aG (pI ι 109 0 (0 : Int32))) A s H locs := hw
  refine lv_aload_n hx hb dX7_value_5 rfl (lv_at hl 0 rfl) ?_
  refine lv_aload_n hx hb dX7_value_6 rfl (lv_at hl 0 rfl) ?_
  refine lv_iload_n hx hb dX7_value_7 rfl (lv_at hl 1 rfl) ?_
  obtain ⟨r8, hr8, hM⟩ := h_b hM
  refine a_callV (σ' := aG r8.2) (v := (some (.int r8.1))) (As := fun ad => [.int x1]) (rest := [.ref (ad 109)]) (o := 109) C hw (c_X7_isPerson l hr8) k_X7_isPerson wM_X7_207 ⟨⟨rfl, rfl⟩, ⟨Nat.le_of_ble_eq_true rfl, Nat.le_of_ble_eq_true rfl⟩⟩ rfl (by decide) rfl rfl rfl hl rfl (Nat.le_of_ble_eq_true rfl) dX7_value_8 ⟨Nat.zero_le _, Nat.zero_le _⟩ (fun H locs hw => ?_)
  refine lv_if_eq (tgt := 22) hx hb dX7_value_11 (by decide) (fun hc => ?_) (fun hc => ?_)
  · replace hM := h_t hc hM
    refine lv_iconst (v := (1 : Int32)) hx hb dX7_value_22 (by decide) ?_
    refine lv_goto (tgt := 27) hx hb dX7_value_23 (by decide) ?_
    refine lv_iconst (v := (1 : Int32)) hx hb dX7_value_27 (by decide) ?_
    refine lv_iconst (v := (0 : Int32)) hx hb dX7_value_28 (by decide) ?_
    obtain ⟨r29, hr29, hM⟩ := h_b hM
    refine a_callV (σ' := aG r29.2) (v := (some (.int r29.1))) (As := fun ad => [.int (1 : Int32), .int (1 : Int32), .int (0 : Int32)]) (rest := []) (o := 109) C hw (c_X7_bad l hr29) k_X7_bad wM_X7_164 ⟨⟨rfl, rfl⟩, ⟨Nat.le_of_ble_eq_true rfl, Nat.le_of_ble_eq_true rfl⟩⟩ rfl (by decide) rfl rfl rfl hl rfl (Nat.le_of_ble_eq_true rfl) dX7_value_29 ⟨Nat.zero_le _, Nat.zero_le _⟩ (fun H locs hw => ?_)
    refine lv_if_eq (tgt := 39) hx hb dX7_value_32 (by decide) (fun hc => ?_) (fun hc => ?_)
    · replace hM := h_t hc hM
      refine lv_aload_n hx hb dX7_value_39 rfl (lv_at hl 0 rfl) ?_
      refine lv_iload_n hx hb dX7_value_40 rfl (lv_at hl 1 rfl) ?_
      refine lv_iload_n hx hb dX7_value_41 rfl (lv_at hl 2 rfl) ?_
      obtain ⟨r42, hr42, hM⟩ := h_b hM
      refine a_callV (σ' := aG r42.2) (v := (some (.int r42.1))) (As := fun ad => [.int x1, .int x2]) (rest := []) (o := 109) C hw (c_X7_valueOf l hr42) k_X7_valueOf wM_X7_183 ⟨⟨rfl, rfl⟩, ⟨Nat.le_of_ble_eq_true rfl, Nat.le_of_ble_eq_true rfl⟩⟩ rfl (by decide) rfl rfl rfl hl rfl (Nat.le_of_ble_eq_true rfl) dX7_value_42 ⟨Nat.zero_le _, Nat.zero_le _⟩ (fun H locs hw => ?_)
      cases h_e hM
      exact a_iret C hw dX7_value_45
    · replace hM := h_f hc hM
      refine lv_iconst (v := (0 : Int32)) hx hb dX7_value_35 (by decide) ?_
      refine lv_goto (tgt := 45) hx hb dX7_value_36 (by decide) ?_
      cases h_e hM
      exact a_iret C hw dX7_value_45
  · replace hM := h_f hc hM
    refine lv_aload_n hx hb dX7_value_14 rfl (lv_at hl 0 rfl) ?_
    refine lv_iload_n hx hb dX7_value_15 rfl (lv_at hl 2 rfl) ?_
    obtain ⟨r16, hr16, hM⟩ := h_b hM
    refine a_callV (σ' := aG r16.2) (v := (some (.int r16.1))) (As := fun ad => [.int x2]) (rest := [.ref (ad 109)]) (o := 109) C hw (c_X7_isTrait l hr16) k_X7_isTrait wM_X7_216 ⟨⟨rfl, rfl⟩, ⟨Nat.le_of_ble_eq_true rfl, Nat.le_of_ble_eq_true rfl⟩⟩ rfl (by decide) rfl rfl rfl hl rfl (Nat.le_of_ble_eq_true rfl) dX7_value_16 ⟨Nat.zero_le _, Nat.zero_le _⟩ (fun H locs hw => ?_)
    refine lv_if_ne (tgt := 26) hx hb dX7_value_19 (by decide) (fun hc => ?_) (fun hc => ?_)
    · replace hM := h_f hc hM
      refine lv_iconst (v := (0 : Int32)) hx hb dX7_value_26 (by decide) ?_
      refine lv_iconst (v := (1 : Int32)) hx hb dX7_value_27 (by decide) ?_
      refine lv_iconst (v := (0 : Int32)) hx hb dX7_value_28 (by decide) ?_
      obtain ⟨r29, hr29, hM⟩ := h_b hM
      refine a_callV (σ' := aG r29.2) (v := (some (.int r29.1))) (As := fun ad => [.int (0 : Int32), .int (1 : Int32), .int (0 : Int32)]) (rest := []) (o := 109) C hw (c_X7_bad l hr29) k_X7_bad wM_X7_164 ⟨⟨rfl, rfl⟩, ⟨Nat.le_of_ble_eq_true rfl, Nat.le_of_ble_eq_true rfl⟩⟩ rfl (by decide) rfl rfl rfl hl rfl (Nat.le_of_ble_eq_true rfl) dX7_value_29 ⟨Nat.zero_le _, Nat.zero_le _⟩ (fun H locs hw => ?_)
      refine lv_if_eq (tgt := 39) hx hb dX7_value_32 (by decide) (fun hc => ?_) (fun hc => ?_)
      · replace hM := h_t hc hM
        refine lv_aload_n hx hb dX7_value_39 rfl (lv_at hl 0 rfl) ?_
        refine lv_iload_n hx hb dX7_value_40 rfl (lv_at hl 1 rfl) ?_
        refine lv_iload_n hx hb dX7_value_41 rfl (lv_at hl 2 rfl) ?_
        obtain ⟨r42, hr42, hM⟩ := h_b hM
        refine a_callV (σ' := aG r42.2) (v := (some (.int r42.1))) (As := fun ad => [.int x1, .int x2]) (rest := []) (o := 109) C hw (c_X7_valueOf l hr42) k_X7_valueOf wM_X7_183 ⟨⟨rfl, rfl⟩, ⟨Nat.le_of_ble_eq_true rfl, Nat.le_of_ble_eq_true rfl⟩⟩ rfl (by decide) rfl rfl rfl hl rfl (Nat.le_of_ble_eq_true rfl) dX7_value_42 ⟨Nat.zero_le _, Nat.zero_le _⟩ (fun H locs hw => ?_)
        cases h_e hM
        exact a_iret C hw dX7_value_45
      · replace hM := h_f hc hM
        refine lv_iconst (v := (0 : Int32)) hx hb dX7_value_35 (by decide) ?_
        refine lv_goto (tgt := 45) hx hb dX7_value_36 (by decide) ?_
        cases h_e hM
        exact a_iret C hw dX7_value_45
    · replace hM := h_t hc hM
      refine lv_iconst (v := (1 : Int32)) hx hb dX7_value_22 (by decide) ?_
      refine lv_goto (tgt := 27) hx hb dX7_value_23 (by decide) ?_
      refine lv_iconst (v := (1 : Int32)) hx hb dX7_value_27 (by decide) ?_
      refine lv_iconst (v := (0 : Int32)) hx hb dX7_value_28 (by decide) ?_
      obtain ⟨r29, hr29, hM⟩ := h_b hM
      refine a_callV (σ' := aG r29.2) (v := (some (.int r29.1))) (As := fun ad => [.int (1 : Int32), .int (1 : Int32), .int (0 : Int32)]) (rest := []) (o := 109) C hw (c_X7_bad l hr29) k_X7_bad wM_X7_164 ⟨⟨rfl, rfl⟩, ⟨Nat.le_of_ble_eq_true rfl, Nat.le_of_ble_eq_true rfl⟩⟩ rfl (by decide) rfl rfl rfl hl rfl (Nat.le_of_ble_eq_true rfl) dX7_value_29 ⟨Nat.zero_le _, Nat.zero_le _⟩ (fun H locs hw => ?_)
      refine lv_if_eq (tgt := 39) hx hb dX7_value_32 (by decide) (fun hc => ?_) (fun hc => ?_)
      · replace hM := h_t hc hM
        refine lv_aload_n hx hb dX7_value_39 rfl (lv_at hl 0 rfl) ?_
        refine lv_iload_n hx hb dX7_value_40 rfl (lv_at hl 1 rfl) ?_
        refine lv_iload_n hx hb dX7_value_41 rfl (lv_at hl 2 rfl) ?_
        obtain ⟨r42, hr42, hM⟩ := h_b hM
        refine a_callV (σ' := aG r42.2) (v := (some (.int r42.1))) (As := fun ad => [.int x1, .int x2]) (rest := []) (o := 109) C hw (c_X7_valueOf l hr42) k_X7_valueOf wM_X7_183 ⟨⟨rfl, rfl⟩, ⟨Nat.le_of_ble_eq_true rfl, Nat.le_of_ble_eq_true rfl⟩⟩ rfl (by decide) rfl rfl rfl hl rfl (Nat.le_of_ble_eq_true rfl) dX7_value_42 ⟨Nat.zero_le _, Nat.zero_le _⟩ (fun H locs hw => ?_)
        cases h_e hM
        exact a_iret C hw dX7_value_45
      · replace hM := h_f hc hM
        refine lv_iconst (v := (0 : Int32)) hx hb dX7_value_35 (by decide) ?_
        refine lv_goto (tgt := 45) hx hb dX7_value_36 (by decide) ?_
        cases h_e hM
        exact a_iret C hw dX7_value_45
def rm_X7_shown : Room := { frames := 2, cells := 0, slots := 0, locals := 43 }
theorem k_X7_shown : aCal RX7 yX7_shown cX7_shown 2 (some .int) 1 := ⟨wI_yX7_shown, wE_yX7_shown, wZ_X7, wC_yX7_shown, by decide +kernel⟩
set_option maxHeartbeats 4000000 in
set_option maxRecDepth 100000 in
theorem c_X7_shown (l : Launch) {x1 : Int32} {ι : iS} {res : Int32 × iS} (hM : m_X7_shown x1 ι = some res) : aM l yX7_shown cX7_shown 2 (some .int) rm_X7_shown (fun ad => [.ref (ad 109), .int x1]) (aG ι) (some (.int res.1)) (aG res.2) := by
  refine aM.of (by decide) (fun _ => Nat.le_of_ble_eq_true rfl) ?_
  intro p e s m args below meth c D dA ad adV A ls C hw hl
  have C : aX p m c cX7_shown 2 s args aTs RX7 meth (some .int) := C
  have hx := C.1.1
  have hb := C.1.2.1
  have hml := C.1.2.2.1
  have hown := C.1.2.2.2.1
  have hts := C.1.2.2.2.2
  have hl : lv_has ls 2 [(0, .ref (ad 109)), (1, .int x1)] := hl
  unfold m_X7_shown at hM
  refine lv_aload_n hx hb dX7_shown_0 rfl (lv_at hl 0 rfl) ?_
  refine lv_iconst (v := (0 : Int32)) hx hb dX7_shown_1 (by decide) ?_
  refine a_puti (ty := .int) (σ := aG ι) (o := 109) (T := TX7) (N := 20) (ty0 := tyX7) C wU_X7 tyX7_ok nmX7 hw rfl (by decide) rfl 0 (by decide) rfl wF_X7_42 rfl (by decide +kernel) rfl rfl dX7_shown_2 (fun H locs hw => ?_)
  have hw : aW D dA ad adV (aG (pI ι 109 0 (0 : Int32))) A s H locs := hw
  refine lv_aload_n hx hb dX7_shown_5 rfl (lv_at hl 0 rfl) ?_
  refine lv_aload_n hx hb dX7_shown_6 rfl (lv_at hl 0 rfl) ?_
  refine lv_iload_n hx hb dX7_shown_7 rfl (lv_at hl 1 rfl) ?_
  obtain ⟨r8, hr8, hM⟩ := h_b hM
  refine a_callV (σ' := aG r8.2) (v := (some (.int r8.1))) (As := fun ad => [.int x1]) (rest := [.ref (ad 109)]) (o := 109) C hw (c_X7_isPlace l hr8) k_X7_isPlace wM_X7_213 ⟨⟨rfl, rfl⟩, ⟨Nat.le_of_ble_eq_true rfl, Nat.le_of_ble_eq_true rfl⟩⟩ rfl (by decide) rfl rfl rfl hl rfl (Nat.le_of_ble_eq_true rfl) dX7_shown_8 ⟨Nat.zero_le _, Nat.zero_le _⟩ (fun H locs hw => ?_)
  refine lv_if_ne (tgt := 18) hx hb dX7_shown_11 (by decide) (fun hc => ?_) (fun hc => ?_)
  · replace hM := h_f hc hM
    refine lv_iconst (v := (0 : Int32)) hx hb dX7_shown_18 (by decide) ?_
    refine lv_iconst (v := (1 : Int32)) hx hb dX7_shown_19 (by decide) ?_
    refine lv_iconst (v := (0 : Int32)) hx hb dX7_shown_20 (by decide) ?_
    obtain ⟨r21, hr21, hM⟩ := h_b hM
    refine a_callV (σ' := aG r21.2) (v := (some (.int r21.1))) (As := fun ad => [.int (0 : Int32), .int (1 : Int32), .int (0 : Int32)]) (rest := []) (o := 109) C hw (c_X7_bad l hr21) k_X7_bad wM_X7_164 ⟨⟨rfl, rfl⟩, ⟨Nat.le_of_ble_eq_true rfl, Nat.le_of_ble_eq_true rfl⟩⟩ rfl (by decide) rfl rfl rfl hl rfl (Nat.le_of_ble_eq_true rfl) dX7_shown_21 ⟨Nat.zero_le _, Nat.zero_le _⟩ (fun H locs hw => ?_)
    refine lv_if_eq (tgt := 31) hx hb dX7_shown_24 (by decide) (fun hc => ?_) (fun hc => ?_)
    · replace hM := h_t hc hM
      refine lv_aload_n hx hb dX7_shown_31 rfl (lv_at hl 0 rfl) ?_
      refine a_getp (q := 112) (σ := aG r21.2) (o := 109) (T := TX7) (N := 20) C wU_X7 hw rfl (by decide) rfl 9 (by decide) rfl wF_X7_20 (aG_P rfl rfl) dX7_shown_32 ?_
      refine lv_bipush (v := (99 : Int32)) hx hb dX7_shown_35 (by decide) ?_
      refine lv_iload_n hx hb dX7_shown_37 rfl (lv_at hl 1 rfl) ?_
      refine lv_iadd hx hb dX7_shown_38 ?_
      obtain ⟨hi, hM⟩ := h_i hM
      refine a_iald (σ := aG r21.2) (o := 112) C hw rfl hi rfl dX7_shown_39 ?_
      cases h_e hM
      exact a_iret C hw dX7_shown_40
    · replace hM := h_f hc hM
      refine lv_iconst (v := (0 : Int32)) hx hb dX7_shown_27 (by decide) ?_
      refine lv_goto (tgt := 40) hx hb dX7_shown_28 (by decide) ?_
      cases h_e hM
      exact a_iret C hw dX7_shown_40
  · replace hM := h_t hc hM
    refine lv_iconst (v := (1 : Int32)) hx hb dX7_shown_14 (by decide) ?_
    refine lv_goto (tgt := 19) hx hb dX7_shown_15 (by decide) ?_
    refine lv_iconst (v := (1 : Int32)) hx hb dX7_shown_19 (by decide) ?_
    refine lv_iconst (v := (0 : Int32)) hx hb dX7_shown_20 (by decide) ?_
    obtain ⟨r21, hr21, hM⟩ := h_b hM
    refine a_callV (σ' := aG r21.2) (v := (some (.int r21.1))) (As := fun ad => [.int (1 : Int32), .int (1 : Int32), .int (0 : Int32)]) (rest := []) (o := 109) C hw (c_X7_bad l hr21) k_X7_bad wM_X7_164 ⟨⟨rfl, rfl⟩, ⟨Nat.le_of_ble_eq_true rfl, Nat.le_of_ble_eq_true rfl⟩⟩ rfl (by decide) rfl rfl rfl hl rfl (Nat.le_of_ble_eq_true rfl) dX7_shown_21 ⟨Nat.zero_le _, Nat.zero_le _⟩ (fun H locs hw => ?_)
    refine lv_if_eq (tgt := 31) hx hb dX7_shown_24 (by decide) (fun hc => ?_) (fun hc => ?_)
    · replace hM := h_t hc hM
      refine lv_aload_n hx hb dX7_shown_31 rfl (lv_at hl 0 rfl) ?_
      refine a_getp (q := 112) (σ := aG r21.2) (o := 109) (T := TX7) (N := 20) C wU_X7 hw rfl (by decide) rfl 9 (by decide) rfl wF_X7_20 (aG_P rfl rfl) dX7_shown_32 ?_
      refine lv_bipush (v := (99 : Int32)) hx hb dX7_shown_35 (by decide) ?_
      refine lv_iload_n hx hb dX7_shown_37 rfl (lv_at hl 1 rfl) ?_
      refine lv_iadd hx hb dX7_shown_38 ?_
      obtain ⟨hi, hM⟩ := h_i hM
      refine a_iald (σ := aG r21.2) (o := 112) C hw rfl hi rfl dX7_shown_39 ?_
      cases h_e hM
      exact a_iret C hw dX7_shown_40
    · replace hM := h_f hc hM
      refine lv_iconst (v := (0 : Int32)) hx hb dX7_shown_27 (by decide) ?_
      refine lv_goto (tgt := 40) hx hb dX7_shown_28 (by decide) ?_
      cases h_e hM
      exact a_iret C hw dX7_shown_40
def rm_X7_match : Room := { frames := 4, cells := 0, slots := 0, locals := 100 }
theorem k_X7_match : aCal RX7 yX7_match cX7_match 3 (some .int) 2 := ⟨wI_yX7_match, wE_yX7_match, wZ_X7, wC_yX7_match, by decide +kernel⟩
set_option maxHeartbeats 4000000 in
set_option maxRecDepth 100000 in
theorem c_X7_match (l : Launch) {x1 : Int32} {x2 : Int32} {ι : iS} {res : Int32 × iS} (hM : m_X7_match x1 x2 ι = some res) : aM l yX7_match cX7_match 3 (some .int) rm_X7_match (fun ad => [.ref (ad 109), .int x1, .int x2]) (aG ι) (some (.int res.1)) (aG res.2) := by
  refine aM.of (by decide) (fun _ => Nat.le_of_ble_eq_true rfl) ?_
  intro p e s m args below meth c D dA ad adV A ls C hw hl
  have C : aX p m c cX7_match 3 s args aTs RX7 meth (some .int) := C
  have hx := C.1.1
  have hb := C.1.2.1
  have hml := C.1.2.2.1
  have hown := C.1.2.2.2.1
  have hts := C.1.2.2.2.2
  have hl : lv_has ls 3 [(0, .ref (ad 109)), (1, .int x1), (2, .int x2)] := hl
  unfold m_X7_match at hM
  refine lv_aload_n hx hb dX7_match_0 rfl (lv_at hl 0 rfl) ?_
  refine lv_iconst (v := (0 : Int32)) hx hb dX7_match_1 (by decide) ?_
  refine a_puti (ty := .int) (σ := aG ι) (o := 109) (T := TX7) (N := 20) (ty0 := tyX7) C wU_X7 tyX7_ok nmX7 hw rfl (by decide) rfl 0 (by decide) rfl wF_X7_42 rfl (by decide +kernel) rfl rfl dX7_match_2 (fun H locs hw => ?_)
  have hw : aW D dA ad adV (aG (pI ι 109 0 (0 : Int32))) A s H locs := hw
  refine lv_aload_n hx hb dX7_match_5 rfl (lv_at hl 0 rfl) ?_
  refine lv_aload_n hx hb dX7_match_6 rfl (lv_at hl 0 rfl) ?_
  refine lv_iload_n hx hb dX7_match_7 rfl (lv_at hl 1 rfl) ?_
  obtain ⟨r8, hr8, hM⟩ := h_b hM
  refine a_callV (σ' := aG r8.2) (v := (some (.int r8.1))) (As := fun ad => [.int x1]) (rest := [.ref (ad 109)]) (o := 109) C hw (c_X7_isPerson l hr8) k_X7_isPerson wM_X7_207 ⟨⟨rfl, rfl⟩, ⟨Nat.le_of_ble_eq_true rfl, Nat.le_of_ble_eq_true rfl⟩⟩ rfl (by decide) rfl rfl rfl hl rfl (Nat.le_of_ble_eq_true rfl) dX7_match_8 ⟨Nat.zero_le _, Nat.zero_le _⟩ (fun H locs hw => ?_)
  refine lv_if_ne (tgt := 18) hx hb dX7_match_11 (by decide) (fun hc => ?_) (fun hc => ?_)
  · replace hM := h_f hc hM
    refine lv_iconst (v := (0 : Int32)) hx hb dX7_match_18 (by decide) ?_
    refine lv_iconst (v := (1 : Int32)) hx hb dX7_match_19 (by decide) ?_
    refine lv_iconst (v := (0 : Int32)) hx hb dX7_match_20 (by decide) ?_
    obtain ⟨r21, hr21, hM⟩ := h_b hM
    refine a_callV (σ' := aG r21.2) (v := (some (.int r21.1))) (As := fun ad => [.int (0 : Int32), .int (1 : Int32), .int (0 : Int32)]) (rest := []) (o := 109) C hw (c_X7_bad l hr21) k_X7_bad wM_X7_164 ⟨⟨rfl, rfl⟩, ⟨Nat.le_of_ble_eq_true rfl, Nat.le_of_ble_eq_true rfl⟩⟩ rfl (by decide) rfl rfl rfl hl rfl (Nat.le_of_ble_eq_true rfl) dX7_match_21 ⟨Nat.zero_le _, Nat.zero_le _⟩ (fun H locs hw => ?_)
    refine lv_if_eq (tgt := 31) hx hb dX7_match_24 (by decide) (fun hc => ?_) (fun hc => ?_)
    · replace hM := h_t hc hM
      refine lv_aload_n hx hb dX7_match_31 rfl (lv_at hl 0 rfl) ?_
      refine lv_iload_n hx hb dX7_match_32 rfl (lv_at hl 1 rfl) ?_
      refine lv_iload_n hx hb dX7_match_33 rfl (lv_at hl 2 rfl) ?_
      obtain ⟨r34, hr34, hM⟩ := h_b hM
      refine a_callV (σ' := aG r34.2) (v := (some (.int r34.1))) (As := fun ad => [.int x1, .int x2]) (rest := []) (o := 109) C hw (c_X7_matchOf l hr34) k_X7_matchOf wM_X7_219 ⟨⟨rfl, rfl⟩, ⟨Nat.le_of_ble_eq_true rfl, Nat.le_of_ble_eq_true rfl⟩⟩ rfl (by decide) rfl rfl rfl hl rfl (Nat.le_of_ble_eq_true rfl) dX7_match_34 ⟨Nat.zero_le _, Nat.zero_le _⟩ (fun H locs hw => ?_)
      cases h_e hM
      exact a_iret C hw dX7_match_37
    · replace hM := h_f hc hM
      refine lv_iconst (v := (0 : Int32)) hx hb dX7_match_27 (by decide) ?_
      refine lv_goto (tgt := 37) hx hb dX7_match_28 (by decide) ?_
      cases h_e hM
      exact a_iret C hw dX7_match_37
  · replace hM := h_t hc hM
    refine lv_iconst (v := (1 : Int32)) hx hb dX7_match_14 (by decide) ?_
    refine lv_goto (tgt := 19) hx hb dX7_match_15 (by decide) ?_
    refine lv_iconst (v := (1 : Int32)) hx hb dX7_match_19 (by decide) ?_
    refine lv_iconst (v := (0 : Int32)) hx hb dX7_match_20 (by decide) ?_
    obtain ⟨r21, hr21, hM⟩ := h_b hM
    refine a_callV (σ' := aG r21.2) (v := (some (.int r21.1))) (As := fun ad => [.int (1 : Int32), .int (1 : Int32), .int (0 : Int32)]) (rest := []) (o := 109) C hw (c_X7_bad l hr21) k_X7_bad wM_X7_164 ⟨⟨rfl, rfl⟩, ⟨Nat.le_of_ble_eq_true rfl, Nat.le_of_ble_eq_true rfl⟩⟩ rfl (by decide) rfl rfl rfl hl rfl (Nat.le_of_ble_eq_true rfl) dX7_match_21 ⟨Nat.zero_le _, Nat.zero_le _⟩ (fun H locs hw => ?_)
    refine lv_if_eq (tgt := 31) hx hb dX7_match_24 (by decide) (fun hc => ?_) (fun hc => ?_)
    · replace hM := h_t hc hM
      refine lv_aload_n hx hb dX7_match_31 rfl (lv_at hl 0 rfl) ?_
      refine lv_iload_n hx hb dX7_match_32 rfl (lv_at hl 1 rfl) ?_
      refine lv_iload_n hx hb dX7_match_33 rfl (lv_at hl 2 rfl) ?_
      obtain ⟨r34, hr34, hM⟩ := h_b hM
      refine a_callV (σ' := aG r34.2) (v := (some (.int r34.1))) (As := fun ad => [.int x1, .int x2]) (rest := []) (o := 109) C hw (c_X7_matchOf l hr34) k_X7_matchOf wM_X7_219 ⟨⟨rfl, rfl⟩, ⟨Nat.le_of_ble_eq_true rfl, Nat.le_of_ble_eq_true rfl⟩⟩ rfl (by decide) rfl rfl rfl hl rfl (Nat.le_of_ble_eq_true rfl) dX7_match_34 ⟨Nat.zero_le _, Nat.zero_le _⟩ (fun H locs hw => ?_)
      cases h_e hM
      exact a_iret C hw dX7_match_37
    · replace hM := h_f hc hM
      refine lv_iconst (v := (0 : Int32)) hx hb dX7_match_27 (by decide) ?_
      refine lv_goto (tgt := 37) hx hb dX7_match_28 (by decide) ?_
      cases h_e hM
      exact a_iret C hw dX7_match_37
def rm_X7_mocks : Room := { frames := 2, cells := 0, slots := 0, locals := 43 }
theorem k_X7_mocks : aCal RX7 yX7_mocks cX7_mocks 2 (some .int) 1 := ⟨wI_yX7_mocks, wE_yX7_mocks, wZ_X7, wC_yX7_mocks, by decide +kernel⟩
set_option maxHeartbeats 4000000 in
set_option maxRecDepth 100000 in
theorem c_X7_mocks (l : Launch) {x1 : Int32} {ι : iS} {res : Int32 × iS} (hM : m_X7_mocks x1 ι = some res) : aM l yX7_mocks cX7_mocks 2 (some .int) rm_X7_mocks (fun ad => [.ref (ad 109), .int x1]) (aG ι) (some (.int res.1)) (aG res.2) := by
  refine aM.of (by decide) (fun _ => Nat.le_of_ble_eq_true rfl) ?_
  intro p e s m args below meth c D dA ad adV A ls C hw hl
  have C : aX p m c cX7_mocks 2 s args aTs RX7 meth (some .int) := C
  have hx := C.1.1
  have hb := C.1.2.1
  have hml := C.1.2.2.1
  have hown := C.1.2.2.2.1
  have hts := C.1.2.2.2.2
  have hl : lv_has ls 2 [(0, .ref (ad 109)), (1, .int x1)] := hl
  unfold m_X7_mocks at hM
  refine lv_aload_n hx hb dX7_mocks_0 rfl (lv_at hl 0 rfl) ?_
  refine lv_iconst (v := (0 : Int32)) hx hb dX7_mocks_1 (by decide) ?_
  refine a_puti (ty := .int) (σ := aG ι) (o := 109) (T := TX7) (N := 20) (ty0 := tyX7) C wU_X7 tyX7_ok nmX7 hw rfl (by decide) rfl 0 (by decide) rfl wF_X7_42 rfl (by decide +kernel) rfl rfl dX7_mocks_2 (fun H locs hw => ?_)
  have hw : aW D dA ad adV (aG (pI ι 109 0 (0 : Int32))) A s H locs := hw
  refine lv_aload_n hx hb dX7_mocks_5 rfl (lv_at hl 0 rfl) ?_
  refine lv_aload_n hx hb dX7_mocks_6 rfl (lv_at hl 0 rfl) ?_
  refine lv_iload_n hx hb dX7_mocks_7 rfl (lv_at hl 1 rfl) ?_
  obtain ⟨r8, hr8, hM⟩ := h_b hM
  refine a_callV (σ' := aG r8.2) (v := (some (.int r8.1))) (As := fun ad => [.int x1]) (rest := [.ref (ad 109)]) (o := 109) C hw (c_X7_isPerson l hr8) k_X7_isPerson wM_X7_207 ⟨⟨rfl, rfl⟩, ⟨Nat.le_of_ble_eq_true rfl, Nat.le_of_ble_eq_true rfl⟩⟩ rfl (by decide) rfl rfl rfl hl rfl (Nat.le_of_ble_eq_true rfl) dX7_mocks_8 ⟨Nat.zero_le _, Nat.zero_le _⟩ (fun H locs hw => ?_)
  refine lv_if_ne (tgt := 18) hx hb dX7_mocks_11 (by decide) (fun hc => ?_) (fun hc => ?_)
  · replace hM := h_f hc hM
    refine lv_iconst (v := (0 : Int32)) hx hb dX7_mocks_18 (by decide) ?_
    refine lv_iconst (v := (1 : Int32)) hx hb dX7_mocks_19 (by decide) ?_
    refine lv_iconst (v := (0 : Int32)) hx hb dX7_mocks_20 (by decide) ?_
    obtain ⟨r21, hr21, hM⟩ := h_b hM
    refine a_callV (σ' := aG r21.2) (v := (some (.int r21.1))) (As := fun ad => [.int (0 : Int32), .int (1 : Int32), .int (0 : Int32)]) (rest := []) (o := 109) C hw (c_X7_bad l hr21) k_X7_bad wM_X7_164 ⟨⟨rfl, rfl⟩, ⟨Nat.le_of_ble_eq_true rfl, Nat.le_of_ble_eq_true rfl⟩⟩ rfl (by decide) rfl rfl rfl hl rfl (Nat.le_of_ble_eq_true rfl) dX7_mocks_21 ⟨Nat.zero_le _, Nat.zero_le _⟩ (fun H locs hw => ?_)
    refine lv_if_eq (tgt := 31) hx hb dX7_mocks_24 (by decide) (fun hc => ?_) (fun hc => ?_)
    · replace hM := h_t hc hM
      refine lv_aload_n hx hb dX7_mocks_31 rfl (lv_at hl 0 rfl) ?_
      refine a_getp (q := 112) (σ := aG r21.2) (o := 109) (T := TX7) (N := 20) C wU_X7 hw rfl (by decide) rfl 9 (by decide) rfl wF_X7_20 (aG_P rfl rfl) dX7_mocks_32 ?_
      refine lv_bipush (v := (107 : Int32)) hx hb dX7_mocks_35 (by decide) ?_
      refine lv_iload_n hx hb dX7_mocks_37 rfl (lv_at hl 1 rfl) ?_
      refine lv_iadd hx hb dX7_mocks_38 ?_
      obtain ⟨hi, hM⟩ := h_i hM
      refine a_iald (σ := aG r21.2) (o := 112) C hw rfl hi rfl dX7_mocks_39 ?_
      cases h_e hM
      exact a_iret C hw dX7_mocks_40
    · replace hM := h_f hc hM
      refine lv_iconst (v := (0 : Int32)) hx hb dX7_mocks_27 (by decide) ?_
      refine lv_goto (tgt := 40) hx hb dX7_mocks_28 (by decide) ?_
      cases h_e hM
      exact a_iret C hw dX7_mocks_40
  · replace hM := h_t hc hM
    refine lv_iconst (v := (1 : Int32)) hx hb dX7_mocks_14 (by decide) ?_
    refine lv_goto (tgt := 19) hx hb dX7_mocks_15 (by decide) ?_
    refine lv_iconst (v := (1 : Int32)) hx hb dX7_mocks_19 (by decide) ?_
    refine lv_iconst (v := (0 : Int32)) hx hb dX7_mocks_20 (by decide) ?_
    obtain ⟨r21, hr21, hM⟩ := h_b hM
    refine a_callV (σ' := aG r21.2) (v := (some (.int r21.1))) (As := fun ad => [.int (1 : Int32), .int (1 : Int32), .int (0 : Int32)]) (rest := []) (o := 109) C hw (c_X7_bad l hr21) k_X7_bad wM_X7_164 ⟨⟨rfl, rfl⟩, ⟨Nat.le_of_ble_eq_true rfl, Nat.le_of_ble_eq_true rfl⟩⟩ rfl (by decide) rfl rfl rfl hl rfl (Nat.le_of_ble_eq_true rfl) dX7_mocks_21 ⟨Nat.zero_le _, Nat.zero_le _⟩ (fun H locs hw => ?_)
    refine lv_if_eq (tgt := 31) hx hb dX7_mocks_24 (by decide) (fun hc => ?_) (fun hc => ?_)
    · replace hM := h_t hc hM
      refine lv_aload_n hx hb dX7_mocks_31 rfl (lv_at hl 0 rfl) ?_
      refine a_getp (q := 112) (σ := aG r21.2) (o := 109) (T := TX7) (N := 20) C wU_X7 hw rfl (by decide) rfl 9 (by decide) rfl wF_X7_20 (aG_P rfl rfl) dX7_mocks_32 ?_
      refine lv_bipush (v := (107 : Int32)) hx hb dX7_mocks_35 (by decide) ?_
      refine lv_iload_n hx hb dX7_mocks_37 rfl (lv_at hl 1 rfl) ?_
      refine lv_iadd hx hb dX7_mocks_38 ?_
      obtain ⟨hi, hM⟩ := h_i hM
      refine a_iald (σ := aG r21.2) (o := 112) C hw rfl hi rfl dX7_mocks_39 ?_
      cases h_e hM
      exact a_iret C hw dX7_mocks_40
    · replace hM := h_f hc hM
      refine lv_iconst (v := (0 : Int32)) hx hb dX7_mocks_27 (by decide) ?_
      refine lv_goto (tgt := 40) hx hb dX7_mocks_28 (by decide) ?_
      cases h_e hM
      exact a_iret C hw dX7_mocks_40
def rm_X7_alike : Room := { frames := 2, cells := 0, slots := 0, locals := 43 }
set_option maxHeartbeats 4000000 in
set_option maxRecDepth 100000 in
theorem tl_X7_alike_42 (l : Launch) {p : Program} {e : Env} {s : State} {m : MethodId} {args : Array Value} {below : List Frame} {meth : Method} {c : Code} {D : va_G} {dA : Nat → ClassId} {ad adV : Nat → Nat} {A : Nat → Prop} (C : aX p m c cX7_alike 5 s args aTs RX7 meth (some .int)) {res : Int32 × iS} : ∀ (n : Nat) (y1 : Int32) (y2 : Int32) (y3 : Int32) (y4 : Int32) {ι : iS}, l_X7_alike_42 n y1 y2 y3 y4 ι = some res → ∀ {H : Heap} {locs : List Loc} {ls : Array Slot}, aW D dA ad adV (aG ι) A s H locs → lv_has ls 5 [(0, .ref (ad 109)), (1, .int y1), (2, .int y2), (3, .int y3), (4, .int y4)] → W p l e rm_X7_alike s m args below meth c H locs 0 0 (MQ below (aQ D dA ad (aG res.2) A (some (.int res.1))) args s 0 0 A) (F0 m 42 ls []) := by
  have hx := C.1.1
  have hb := C.1.2.1
  have hml := C.1.2.2.1
  have hown := C.1.2.2.2.1
  have hts := C.1.2.2.2.2
  intro n
  induction n with
  | zero => intro y1 y2 y3 y4 ι hM; simp [l_X7_alike_42] at hM
  | succ n ih =>
    intro y1 y2 y3 y4 ι hM H locs ls hw hl
    rw [l_X7_alike_42] at hM
    refine lv_iload hx hb dX7_alike_42 (lv_at hl 4 rfl) ?_
    refine lv_aload_n hx hb dX7_alike_44 rfl (lv_at hl 0 rfl) ?_
    refine a_getp (q := 112) (σ := aG ι) (o := 109) (T := TX7) (N := 20) C wU_X7 hw rfl (by decide) rfl 9 (by decide) rfl wF_X7_20 (aG_P rfl rfl) dX7_alike_45 ?_
    refine lv_iconst (v := (0 : Int32)) hx hb dX7_alike_48 (by decide) ?_
    refine a_iald (σ := aG ι) (o := 112) C hw rfl (aIn_v (by decide)) (show (0 : Int32).toNatClampNeg = 0 by decide) dX7_alike_49 ?_
    refine lv_icmp_ge (tgt := 87) hx hb dX7_alike_50 (by decide) (fun hc => ?_) (fun hc => ?_)
    · replace hM := h_t hc hM
      refine lv_iload_n hx hb dX7_alike_87 rfl (lv_at hl 3 rfl) ?_
      cases h_e hM
      exact a_iret C hw dX7_alike_88
    · replace hM := h_f hc hM
      refine lv_iload_n hx hb dX7_alike_53 rfl (lv_at hl 3 rfl) ?_
      refine lv_aload_n hx hb dX7_alike_54 rfl (lv_at hl 0 rfl) ?_
      refine lv_iload_n hx hb dX7_alike_55 rfl (lv_at hl 1 rfl) ?_
      refine lv_iload hx hb dX7_alike_56 (lv_at hl 4 rfl) ?_
      obtain ⟨r58, hr58, hM⟩ := h_b hM
      refine a_callV (σ' := aG r58.2) (v := (some (.int r58.1))) (As := fun ad => [.int y1, .int y4]) (rest := [.int y3]) (o := 109) C hw (c_X7_valueOf l hr58) k_X7_valueOf wM_X7_183 ⟨⟨rfl, rfl⟩, ⟨Nat.le_of_ble_eq_true rfl, Nat.le_of_ble_eq_true rfl⟩⟩ rfl (by decide) rfl rfl rfl hl rfl (Nat.le_of_ble_eq_true rfl) dX7_alike_58 ⟨Nat.zero_le _, Nat.zero_le _⟩ (fun H locs hw => ?_)
      refine lv_aload_n hx hb dX7_alike_61 rfl (lv_at hl 0 rfl) ?_
      refine lv_iload_n hx hb dX7_alike_62 rfl (lv_at hl 2 rfl) ?_
      refine lv_iload hx hb dX7_alike_63 (lv_at hl 4 rfl) ?_
      obtain ⟨r65, hr65, hM⟩ := h_b hM
      refine a_callV (σ' := aG r65.2) (v := (some (.int r65.1))) (As := fun ad => [.int y2, .int y4]) (rest := [.int r58.1, .int y3]) (o := 109) C hw (c_X7_valueOf l hr65) k_X7_valueOf wM_X7_183 ⟨⟨rfl, rfl⟩, ⟨Nat.le_of_ble_eq_true rfl, Nat.le_of_ble_eq_true rfl⟩⟩ rfl (by decide) rfl rfl rfl hl rfl (Nat.le_of_ble_eq_true rfl) dX7_alike_65 ⟨Nat.zero_le _, Nat.zero_le _⟩ (fun H locs hw => ?_)
      refine lv_icmp_ne (tgt := 78) hx hb dX7_alike_68 (by decide) (fun hc => ?_) (fun hc => ?_)
      · replace hM := h_f hc hM
        refine lv_iconst (v := (0 : Int32)) hx hb dX7_alike_78 (by decide) ?_
        refine lv_ior hx hb dX7_alike_79 ?_
        refine lv_istore_n (lv' := [(3, .int (y3 ||| (0 : Int32))), (0, .ref (ad 109)), (1, .int y1), (2, .int y2), (4, .int y4)]) hx hb dX7_alike_80 rfl hl (by decide) rfl (fun ls hl => ?_)
        refine lv_iinc (v := (y4 + 1)) (lv' := [(4, .int (y4 + 1)), (3, .int (y3 ||| (0 : Int32))), (0, .ref (ad 109)), (1, .int y1), (2, .int y2)]) hx hb dX7_alike_81 hl (k := 4) rfl rfl (by decide) rfl (fun ls hl => ?_)
        refine lv_goto (tgt := 42) hx hb dX7_alike_84 (by decide) ?_
        exact ih (y1) (y2) ((y3 ||| (0 : Int32))) ((y4 + 1)) hM hw (lv_sub hl [2, 3, 4, 1, 0] rfl)
      · replace hM := h_t hc hM
        refine lv_iconst (v := (1 : Int32)) hx hb dX7_alike_71 (by decide) ?_
        refine lv_iload hx hb dX7_alike_72 (lv_at hl 4 rfl) ?_
        refine lv_ishl hx hb dX7_alike_74 ?_
        refine lv_goto (tgt := 79) hx hb dX7_alike_75 (by decide) ?_
        refine lv_ior hx hb dX7_alike_79 ?_
        refine lv_istore_n (lv' := [(3, .int (y3 ||| ((1 : Int32) <<< (y4 &&& 31)))), (0, .ref (ad 109)), (1, .int y1), (2, .int y2), (4, .int y4)]) hx hb dX7_alike_80 rfl hl (by decide) rfl (fun ls hl => ?_)
        refine lv_iinc (v := (y4 + 1)) (lv' := [(4, .int (y4 + 1)), (3, .int (y3 ||| ((1 : Int32) <<< (y4 &&& 31)))), (0, .ref (ad 109)), (1, .int y1), (2, .int y2)]) hx hb dX7_alike_81 hl (k := 4) rfl rfl (by decide) rfl (fun ls hl => ?_)
        refine lv_goto (tgt := 42) hx hb dX7_alike_84 (by decide) ?_
        exact ih (y1) (y2) ((y3 ||| ((1 : Int32) <<< (y4 &&& 31)))) ((y4 + 1)) hM hw (lv_sub hl [2, 3, 4, 1, 0] rfl)
theorem k_X7_alike : aCal RX7 yX7_alike cX7_alike 5 (some .int) 2 := ⟨wI_yX7_alike, wE_yX7_alike, wZ_X7, wC_yX7_alike, by decide +kernel⟩
set_option maxHeartbeats 4000000 in
set_option maxRecDepth 100000 in
theorem c_X7_alike (l : Launch) {x1 : Int32} {x2 : Int32} {ι : iS} {res : Int32 × iS} (hM : m_X7_alike x1 x2 ι = some res) : aM l yX7_alike cX7_alike 5 (some .int) rm_X7_alike (fun ad => [.ref (ad 109), .int x1, .int x2]) (aG ι) (some (.int res.1)) (aG res.2) := by
  refine aM.of (by decide) (fun _ => Nat.le_of_ble_eq_true rfl) ?_
  intro p e s m args below meth c D dA ad adV A ls C hw hl
  have C : aX p m c cX7_alike 5 s args aTs RX7 meth (some .int) := C
  have hx := C.1.1
  have hb := C.1.2.1
  have hml := C.1.2.2.1
  have hown := C.1.2.2.2.1
  have hts := C.1.2.2.2.2
  have hl : lv_has ls 5 [(0, .ref (ad 109)), (1, .int x1), (2, .int x2)] := hl
  unfold m_X7_alike at hM
  refine lv_aload_n hx hb dX7_alike_0 rfl (lv_at hl 0 rfl) ?_
  refine lv_iconst (v := (0 : Int32)) hx hb dX7_alike_1 (by decide) ?_
  refine a_puti (ty := .int) (σ := aG ι) (o := 109) (T := TX7) (N := 20) (ty0 := tyX7) C wU_X7 tyX7_ok nmX7 hw rfl (by decide) rfl 0 (by decide) rfl wF_X7_42 rfl (by decide +kernel) rfl rfl dX7_alike_2 (fun H locs hw => ?_)
  have hw : aW D dA ad adV (aG (pI ι 109 0 (0 : Int32))) A s H locs := hw
  refine lv_aload_n hx hb dX7_alike_5 rfl (lv_at hl 0 rfl) ?_
  refine lv_aload_n hx hb dX7_alike_6 rfl (lv_at hl 0 rfl) ?_
  refine lv_iload_n hx hb dX7_alike_7 rfl (lv_at hl 1 rfl) ?_
  obtain ⟨r8, hr8, hM⟩ := h_b hM
  refine a_callV (σ' := aG r8.2) (v := (some (.int r8.1))) (As := fun ad => [.int x1]) (rest := [.ref (ad 109)]) (o := 109) C hw (c_X7_isPerson l hr8) k_X7_isPerson wM_X7_207 ⟨⟨rfl, rfl⟩, ⟨Nat.le_of_ble_eq_true rfl, Nat.le_of_ble_eq_true rfl⟩⟩ rfl (by decide) rfl rfl rfl hl rfl (Nat.le_of_ble_eq_true rfl) dX7_alike_8 ⟨Nat.zero_le _, Nat.zero_le _⟩ (fun H locs hw => ?_)
  refine lv_if_eq (tgt := 22) hx hb dX7_alike_11 (by decide) (fun hc => ?_) (fun hc => ?_)
  · replace hM := h_t hc hM
    refine lv_iconst (v := (1 : Int32)) hx hb dX7_alike_22 (by decide) ?_
    refine lv_goto (tgt := 27) hx hb dX7_alike_23 (by decide) ?_
    refine lv_iconst (v := (1 : Int32)) hx hb dX7_alike_27 (by decide) ?_
    refine lv_iconst (v := (0 : Int32)) hx hb dX7_alike_28 (by decide) ?_
    obtain ⟨r29, hr29, hM⟩ := h_b hM
    refine a_callV (σ' := aG r29.2) (v := (some (.int r29.1))) (As := fun ad => [.int (1 : Int32), .int (1 : Int32), .int (0 : Int32)]) (rest := []) (o := 109) C hw (c_X7_bad l hr29) k_X7_bad wM_X7_164 ⟨⟨rfl, rfl⟩, ⟨Nat.le_of_ble_eq_true rfl, Nat.le_of_ble_eq_true rfl⟩⟩ rfl (by decide) rfl rfl rfl hl rfl (Nat.le_of_ble_eq_true rfl) dX7_alike_29 ⟨Nat.zero_le _, Nat.zero_le _⟩ (fun H locs hw => ?_)
    refine lv_if_eq (tgt := 37) hx hb dX7_alike_32 (by decide) (fun hc => ?_) (fun hc => ?_)
    · replace hM := h_t hc hM
      refine lv_iconst (v := (0 : Int32)) hx hb dX7_alike_37 (by decide) ?_
      refine lv_istore_n (lv' := [(3, .int (0 : Int32)), (0, .ref (ad 109)), (1, .int x1), (2, .int x2)]) hx hb dX7_alike_38 rfl hl (by decide) rfl (fun ls hl => ?_)
      refine lv_iconst (v := (0 : Int32)) hx hb dX7_alike_39 (by decide) ?_
      refine lv_istore (lv' := [(4, .int (0 : Int32)), (3, .int (0 : Int32)), (0, .ref (ad 109)), (1, .int x1), (2, .int x2)]) hx hb dX7_alike_40 hl (by decide) rfl (fun ls hl => ?_)
      exact tl_X7_alike_42 l C aF (x1) (x2) ((0 : Int32)) ((0 : Int32)) hM hw (lv_sub hl [2, 3, 4, 1, 0] rfl)
    · replace hM := h_f hc hM
      refine lv_iconst (v := (0 : Int32)) hx hb dX7_alike_35 (by decide) ?_
      cases h_e hM
      exact a_iret C hw dX7_alike_36
  · replace hM := h_f hc hM
    refine lv_aload_n hx hb dX7_alike_14 rfl (lv_at hl 0 rfl) ?_
    refine lv_iload_n hx hb dX7_alike_15 rfl (lv_at hl 2 rfl) ?_
    obtain ⟨r16, hr16, hM⟩ := h_b hM
    refine a_callV (σ' := aG r16.2) (v := (some (.int r16.1))) (As := fun ad => [.int x2]) (rest := [.ref (ad 109)]) (o := 109) C hw (c_X7_isPerson l hr16) k_X7_isPerson wM_X7_207 ⟨⟨rfl, rfl⟩, ⟨Nat.le_of_ble_eq_true rfl, Nat.le_of_ble_eq_true rfl⟩⟩ rfl (by decide) rfl rfl rfl hl rfl (Nat.le_of_ble_eq_true rfl) dX7_alike_16 ⟨Nat.zero_le _, Nat.zero_le _⟩ (fun H locs hw => ?_)
    refine lv_if_ne (tgt := 26) hx hb dX7_alike_19 (by decide) (fun hc => ?_) (fun hc => ?_)
    · replace hM := h_f hc hM
      refine lv_iconst (v := (0 : Int32)) hx hb dX7_alike_26 (by decide) ?_
      refine lv_iconst (v := (1 : Int32)) hx hb dX7_alike_27 (by decide) ?_
      refine lv_iconst (v := (0 : Int32)) hx hb dX7_alike_28 (by decide) ?_
      obtain ⟨r29, hr29, hM⟩ := h_b hM
      refine a_callV (σ' := aG r29.2) (v := (some (.int r29.1))) (As := fun ad => [.int (0 : Int32), .int (1 : Int32), .int (0 : Int32)]) (rest := []) (o := 109) C hw (c_X7_bad l hr29) k_X7_bad wM_X7_164 ⟨⟨rfl, rfl⟩, ⟨Nat.le_of_ble_eq_true rfl, Nat.le_of_ble_eq_true rfl⟩⟩ rfl (by decide) rfl rfl rfl hl rfl (Nat.le_of_ble_eq_true rfl) dX7_alike_29 ⟨Nat.zero_le _, Nat.zero_le _⟩ (fun H locs hw => ?_)
      refine lv_if_eq (tgt := 37) hx hb dX7_alike_32 (by decide) (fun hc => ?_) (fun hc => ?_)
      · replace hM := h_t hc hM
        refine lv_iconst (v := (0 : Int32)) hx hb dX7_alike_37 (by decide) ?_
        refine lv_istore_n (lv' := [(3, .int (0 : Int32)), (0, .ref (ad 109)), (1, .int x1), (2, .int x2)]) hx hb dX7_alike_38 rfl hl (by decide) rfl (fun ls hl => ?_)
        refine lv_iconst (v := (0 : Int32)) hx hb dX7_alike_39 (by decide) ?_
        refine lv_istore (lv' := [(4, .int (0 : Int32)), (3, .int (0 : Int32)), (0, .ref (ad 109)), (1, .int x1), (2, .int x2)]) hx hb dX7_alike_40 hl (by decide) rfl (fun ls hl => ?_)
        exact tl_X7_alike_42 l C aF (x1) (x2) ((0 : Int32)) ((0 : Int32)) hM hw (lv_sub hl [2, 3, 4, 1, 0] rfl)
      · replace hM := h_f hc hM
        refine lv_iconst (v := (0 : Int32)) hx hb dX7_alike_35 (by decide) ?_
        cases h_e hM
        exact a_iret C hw dX7_alike_36
    · replace hM := h_t hc hM
      refine lv_iconst (v := (1 : Int32)) hx hb dX7_alike_22 (by decide) ?_
      refine lv_goto (tgt := 27) hx hb dX7_alike_23 (by decide) ?_
      refine lv_iconst (v := (1 : Int32)) hx hb dX7_alike_27 (by decide) ?_
      refine lv_iconst (v := (0 : Int32)) hx hb dX7_alike_28 (by decide) ?_
      obtain ⟨r29, hr29, hM⟩ := h_b hM
      refine a_callV (σ' := aG r29.2) (v := (some (.int r29.1))) (As := fun ad => [.int (1 : Int32), .int (1 : Int32), .int (0 : Int32)]) (rest := []) (o := 109) C hw (c_X7_bad l hr29) k_X7_bad wM_X7_164 ⟨⟨rfl, rfl⟩, ⟨Nat.le_of_ble_eq_true rfl, Nat.le_of_ble_eq_true rfl⟩⟩ rfl (by decide) rfl rfl rfl hl rfl (Nat.le_of_ble_eq_true rfl) dX7_alike_29 ⟨Nat.zero_le _, Nat.zero_le _⟩ (fun H locs hw => ?_)
      refine lv_if_eq (tgt := 37) hx hb dX7_alike_32 (by decide) (fun hc => ?_) (fun hc => ?_)
      · replace hM := h_t hc hM
        refine lv_iconst (v := (0 : Int32)) hx hb dX7_alike_37 (by decide) ?_
        refine lv_istore_n (lv' := [(3, .int (0 : Int32)), (0, .ref (ad 109)), (1, .int x1), (2, .int x2)]) hx hb dX7_alike_38 rfl hl (by decide) rfl (fun ls hl => ?_)
        refine lv_iconst (v := (0 : Int32)) hx hb dX7_alike_39 (by decide) ?_
        refine lv_istore (lv' := [(4, .int (0 : Int32)), (3, .int (0 : Int32)), (0, .ref (ad 109)), (1, .int x1), (2, .int x2)]) hx hb dX7_alike_40 hl (by decide) rfl (fun ls hl => ?_)
        exact tl_X7_alike_42 l C aF (x1) (x2) ((0 : Int32)) ((0 : Int32)) hM hw (lv_sub hl [2, 3, 4, 1, 0] rfl)
      · replace hM := h_f hc hM
        refine lv_iconst (v := (0 : Int32)) hx hb dX7_alike_35 (by decide) ?_
        cases h_e hM
        exact a_iret C hw dX7_alike_36
