def m_X4_isLetter (x1 : Int32) (ι : iS) : Option (Int32 × iS) := if gP ι 24 4 = some 1 then if aIn x1 500 = true then if (gI ι 1 x1.toNatClampNeg) < (97 : Int32) then some ((0 : Int32), ι) else if gP ι 24 4 = some 1 then if aIn x1 500 = true then if (122 : Int32) < (gI ι 1 x1.toNatClampNeg) then some ((0 : Int32), ι) else some ((1 : Int32), ι) else none else none else none else none
def m_X4_isDigit (x1 : Int32) (ι : iS) : Option (Int32 × iS) := if gP ι 24 4 = some 1 then if aIn x1 500 = true then if (gI ι 1 x1.toNatClampNeg) < (48 : Int32) then some ((0 : Int32), ι) else if gP ι 24 4 = some 1 then if aIn x1 500 = true then if (57 : Int32) < (gI ι 1 x1.toNatClampNeg) then some ((0 : Int32), ι) else some ((1 : Int32), ι) else none else none else none else none
def m_X4_put (x1 : Int32) (x2 : Int32) (x3 : Int32) (ι : iS) : Option (iS) := if (501 : Int32) ≤ (gI ι 24 3) then some ι else if aIn (gI ι 24 3) 501 = true then if aIn (gI (pI ι 25 (gI ι 24 3).toNatClampNeg x1) 24 3) 501 = true then if aIn (gI (pI (pI ι 25 (gI ι 24 3).toNatClampNeg x1) 26 (gI (pI ι 25 (gI ι 24 3).toNatClampNeg x1) 24 3).toNatClampNeg x2) 24 3) 501 = true then some (pI (pI (pI (pI ι 25 (gI ι 24 3).toNatClampNeg x1) 26 (gI (pI ι 25 (gI ι 24 3).toNatClampNeg x1) 24 3).toNatClampNeg x2) 27 (gI (pI (pI ι 25 (gI ι 24 3).toNatClampNeg x1) 26 (gI (pI ι 25 (gI ι 24 3).toNatClampNeg x1) 24 3).toNatClampNeg x2) 24 3).toNatClampNeg x3) 24 3 ((gI (pI (pI (pI ι 25 (gI ι 24 3).toNatClampNeg x1) 26 (gI (pI ι 25 (gI ι 24 3).toNatClampNeg x1) 24 3).toNatClampNeg x2) 27 (gI (pI (pI ι 25 (gI ι 24 3).toNatClampNeg x1) 26 (gI (pI ι 25 (gI ι 24 3).toNatClampNeg x1) 24 3).toNatClampNeg x2) 24 3).toNatClampNeg x3) 24 3) + (1 : Int32))) else none else none else none
def l_X4_scanOne_69 : Nat → Int32 → Int32 → Int32 → iS → Option (Int32 × iS)
  | 0, _, _, _, _ => none
  | n + 1, y1, y2, y3, ι => if (gI ι 24 5) ≤ y2 then Option.bind (m_X4_put (2 : Int32) y1 y3 ι) fun r116 => some (y2, r116) else Option.bind (m_X4_isDigit y2 ι) fun r79 => if r79.1 = 0 then Option.bind (m_X4_put (2 : Int32) y1 y3 r79.2) fun r116 => some (y2, r116) else if gP r79.2 24 4 = some 1 then if aIn y2 500 = true then l_X4_scanOne_69 n y1 (y2 + 1) (if ((((10 : Int32) * y3) + (gI r79.2 1 y2.toNatClampNeg)) - (48 : Int32)) < (1000 : Int32) then ((((10 : Int32) * y3) + (gI r79.2 1 y2.toNatClampNeg)) - (48 : Int32)) else (1000 : Int32)) r79.2 else none else none
def l_X4_scanOne_10 : Nat → Int32 → Int32 → iS → Option (Int32 × iS)
  | 0, _, _, _ => none
  | n + 1, y1, y2, ι => if (gI ι 24 5) ≤ y2 then Option.bind (m_X4_put (1 : Int32) y1 (y2 - y1) ι) fun r38 => some (y2, r38) else Option.bind (m_X4_isLetter y2 ι) fun r20 => if r20.1 = 0 then Option.bind (m_X4_put (1 : Int32) y1 (y2 - y1) r20.2) fun r38 => some (y2, r38) else l_X4_scanOne_10 n y1 (y2 + 1) r20.2
def m_X4_scanOne (x1 : Int32) (ι : iS) : Option (Int32 × iS) := Option.bind (m_X4_isLetter x1 ι) fun r4 => if r4.1 = 0 then Option.bind (m_X4_isDigit x1 r4.2) fun r45 => if r45.1 = 0 then if gP r45.2 24 4 = some 1 then if aIn x1 500 = true then Option.bind (m_X4_put (3 : Int32) x1 (gI r45.2 1 x1.toNatClampNeg) r45.2) fun r60 => some ((x1 + (1 : Int32)), r60) else none else none else l_X4_scanOne_69 aF x1 x1 (0 : Int32) r45.2 else l_X4_scanOne_10 aF x1 x1 r4.2
def l_X4_scan_32 : Nat → Int32 → Int32 → Int32 → iS → Option (iS)
  | 0, _, _, _, _ => none
  | n + 1, y2, y3, y4, ι => if (500 : Int32) ≤ y4 then Option.bind (m_X4_put (0 : Int32) (gI ι 24 5) (0 : Int32) ι) fun r84 => some r84 else if (gI ι 24 5) ≤ y3 then Option.bind (m_X4_put (0 : Int32) (gI ι 24 5) (0 : Int32) ι) fun r84 => some r84 else if gP ι 24 4 = some 1 then if aIn y3 500 = true then if (gI ι 1 y3.toNatClampNeg) = (32 : Int32) then l_X4_scan_32 n y2 (y3 + 1) (y4 + 1) ι else Option.bind (m_X4_scanOne y3 ι) fun r67 => l_X4_scan_32 n y2 r67.1 (y4 + 1) r67.2 else none else none
def m_X4_scan (x2 : Int32) (ι : iS) : Option (iS) := Option.bind (m_X6_held x2 (0 : Int32) (if (500 : Int32) < (500 : Int32) then (500 : Int32) else (500 : Int32)) (pP ι 24 4 (some 1))) fun r16 => l_X4_scan_32 aF x2 (0 : Int32) (0 : Int32) (pI (pI r16.2 24 5 r16.1) 24 3 (0 : Int32))
def m_X4_isEnd (x1 : Int32) (ι : iS) : Option (Int32 × iS) := if (gI ι 24 3) ≤ x1 then some ((1 : Int32), ι) else if aIn x1 501 = true then if (gI ι 25 x1.toNatClampNeg) = 0 then some ((1 : Int32), ι) else some ((0 : Int32), ι) else none
def m_X4_isSign (x1 : Int32) (x2 : Int32) (ι : iS) : Option (Int32 × iS) := if (gI ι 24 3) ≤ x1 then some ((0 : Int32), ι) else if aIn x1 501 = true then if (gI ι 25 x1.toNatClampNeg) = (3 : Int32) then if aIn x1 501 = true then if (gI ι 27 x1.toNatClampNeg) = x2 then some ((1 : Int32), ι) else some ((0 : Int32), ι) else none else some ((0 : Int32), ι) else none
def m_X4_isNumber (x1 : Int32) (ι : iS) : Option (Int32 × iS) := if (gI ι 24 3) ≤ x1 then some ((0 : Int32), ι) else if aIn x1 501 = true then if (gI ι 25 x1.toNatClampNeg) = (2 : Int32) then some ((1 : Int32), ι) else some ((0 : Int32), ι) else none
def m_X4_placeAt (x1 : Int32) (ι : iS) : Option (Int32 × iS) := if (gI ι 24 3) ≤ x1 then some ((gI ι 24 5), ι) else if aIn x1 501 = true then some ((gI ι 26 x1.toNatClampNeg), ι) else none
def m_X4_contentAt (x1 : Int32) (ι : iS) : Option (Int32 × iS) := if (gI ι 24 3) ≤ x1 then some ((0 : Int32), ι) else if aIn x1 501 = true then some ((gI ι 27 x1.toNatClampNeg), ι) else none
def m_X3_fail (x1 : Int32) (ι : iS) : Option (Int32 × iS) := some ((0 : Int32), (pI ι 11 4 x1))
def m_X3_readSign (x1 : Int32) (ι : iS) : Option (Int32 × iS) := Option.bind (m_X4_isSign (gI ι 11 5) x1 ι) fun r9 => if r9.1 = 0 then Option.bind (m_X3_fail (1 : Int32) r9.2) fun r17 => if r17.1 = 0 ∨ r17.1 = 1 then some (r17.1, r17.2) else none else some ((1 : Int32), (pI r9.2 11 5 ((gI r9.2 11 5) + (1 : Int32))))
def m_X3_readNumber (x1 : Int32) (x2 : Int32) (ι : iS) : Option (Int32 × iS) := Option.bind (m_X4_isNumber (gI ι 11 5) ι) fun r8 => if r8.1 = 0 then Option.bind (m_X3_fail (1 : Int32) r8.2) fun r16 => some ((-1 : Int32), r16.2) else Option.bind (m_X4_contentAt (gI r8.2 11 5) r8.2) fun r30 => if r30.1 < x1 then Option.bind (m_X3_fail (2 : Int32) r30.2) fun r46 => some ((-1 : Int32), r46.2) else if r30.1 ≤ x2 then some (r30.1, (pI r30.2 11 5 ((gI r30.2 11 5) + (1 : Int32)))) else Option.bind (m_X3_fail (2 : Int32) r30.2) fun r46 => some ((-1 : Int32), r46.2)
def m_X3_readOnce (x1 : Int32) (ι : iS) : Option (Int32 × iS) := if ((gI ι 11 6) &&& x1) = 0 then some ((1 : Int32), (pI (pI ι 11 6 ((gI ι 11 6) ||| x1)) 11 5 ((gI (pI ι 11 6 ((gI ι 11 6) ||| x1)) 11 5) + (1 : Int32)))) else Option.bind (m_X3_fail (1 : Int32) ι) fun r11 => if r11.1 = 0 ∨ r11.1 = 1 then some (r11.1, r11.2) else none
def m_X3_readSetting (x1 : Int32) (ι : iS) : Option (Int32 × iS) := if aIn x1 4 = true then if aIn x1 4 = true then Option.bind (m_X3_readNumber (aSt 0 x1.toNatClampNeg) (aSt 1 x1.toNatClampNeg) ι) fun r11 => if r11.1 = (-1 : Int32) then some ((0 : Int32), r11.2) else if aIn x1 4 = true then some ((1 : Int32), (pI r11.2 16 x1.toNatClampNeg r11.1)) else none else none else none
def l_X3_readValues_2 : Nat → Int32 → Int32 → iS → Option (Int32 × iS)
  | 0, _, _, _ => none
  | n + 1, y1, y2, ι => if (gI ι 12 0) ≤ y2 then some ((1 : Int32), ι) else Option.bind (m_X3_readNumber (0 : Int32) (9 : Int32) ι) fun r17 => if r17.1 = (-1 : Int32) then some ((0 : Int32), r17.2) else Option.bind (m_X2_setValue 12 y1 y2 r17.1 r17.2) fun r35 => l_X3_readValues_2 n y1 (y2 + 1) r35
def m_X3_readValues (x1 : Int32) (ι : iS) : Option (Int32 × iS) := l_X3_readValues_2 aF x1 (0 : Int32) ι
def m_X3_readFiller (ι : iS) : Option (Int32 × iS) := if (gI ι 12 1) < (16 : Int32) then Option.bind (m_X3_readValues ((gI (pI (pI ι 11 5 ((gI ι 11 5) + (1 : Int32))) 12 1 ((gI (pI ι 11 5 ((gI ι 11 5) + (1 : Int32))) 12 1) + (1 : Int32))) 12 1) - (1 : Int32)) (pI (pI ι 11 5 ((gI ι 11 5) + (1 : Int32))) 12 1 ((gI (pI ι 11 5 ((gI ι 11 5) + (1 : Int32))) 12 1) + (1 : Int32)))) fun r51 => if r51.1 = 0 ∨ r51.1 = 1 then some (r51.1, r51.2) else none else Option.bind (m_X3_fail (3 : Int32) ι) fun r14 => if r14.1 = 0 ∨ r14.1 = 1 then some (r14.1, r14.2) else none
def m_X3_readTold (ι : iS) : Option (Int32 × iS) := Option.bind (m_X3_readNumber (0 : Int32) ((gI ι 12 0) - (1 : Int32)) ι) fun r11 => if r11.1 = (-1 : Int32) then some ((0 : Int32), r11.2) else Option.bind (m_X3_readNumber (0 : Int32) (9 : Int32) r11.2) fun r28 => if r28.1 = (-1 : Int32) then some ((0 : Int32), r28.2) else Option.bind (m_X3_readNumber (1 : Int32) (9 : Int32) r28.2) fun r45 => if r45.1 = (-1 : Int32) then some ((0 : Int32), r45.2) else if aIn r11.1 5 = true then if aIn r11.1 5 = true then some ((1 : Int32), (pI (pI r45.2 14 r11.1.toNatClampNeg r28.1) 15 r11.1.toNatClampNeg r45.1)) else none else none
theorem k_X4_isLetter : aCal RX4 yX4_isLetter cX4_isLetter 2 (some .boolean) 1 := ⟨wI_yX4_isLetter, wE_yX4_isLetter, wZ_X4, wC_yX4_isLetter, by decide +kernel⟩
theorem k_X4_isDigit : aCal RX4 yX4_isDigit cX4_isDigit 2 (some .boolean) 1 := ⟨wI_yX4_isDigit, wE_yX4_isDigit, wZ_X4, wC_yX4_isDigit, by decide +kernel⟩
theorem k_X4_put : aCal RX4 yX4_put cX4_put 4 none 3 := ⟨wI_yX4_put, wE_yX4_put, wZ_X4, wC_yX4_put, by decide +kernel⟩
theorem k_X4_scanOne : aCal RX4 yX4_scanOne cX4_scanOne 4 (some .int) 1 := ⟨wI_yX4_scanOne, wE_yX4_scanOne, wZ_X4, wC_yX4_scanOne, by decide +kernel⟩
theorem k_X4_scan : aCal RX4 yX4_scan cX4_scan 5 none 2 := ⟨wI_yX4_scan, wE_yX4_scan, wZ_X4, wC_yX4_scan, by decide +kernel⟩
theorem k_X4_isEnd : aCal RX4 yX4_isEnd cX4_isEnd 2 (some .boolean) 1 := ⟨wI_yX4_isEnd, wE_yX4_isEnd, wZ_X4, wC_yX4_isEnd, by decide +kernel⟩
theorem k_X4_isSign : aCal RX4 yX4_isSign cX4_isSign 3 (some .boolean) 2 := ⟨wI_yX4_isSign, wE_yX4_isSign, wZ_X4, wC_yX4_isSign, by decide +kernel⟩
theorem k_X4_isNumber : aCal RX4 yX4_isNumber cX4_isNumber 2 (some .boolean) 1 := ⟨wI_yX4_isNumber, wE_yX4_isNumber, wZ_X4, wC_yX4_isNumber, by decide +kernel⟩
theorem k_X4_placeAt : aCal RX4 yX4_placeAt cX4_placeAt 2 (some .int) 1 := ⟨wI_yX4_placeAt, wE_yX4_placeAt, wZ_X4, wC_yX4_placeAt, by decide +kernel⟩
theorem k_X4_contentAt : aCal RX4 yX4_contentAt cX4_contentAt 2 (some .int) 1 := ⟨wI_yX4_contentAt, wE_yX4_contentAt, wZ_X4, wC_yX4_contentAt, by decide +kernel⟩
theorem k_X3_fail : aCal RX3 yX3_fail cX3_fail 2 (some .boolean) 1 := ⟨wI_yX3_fail, wE_yX3_fail, wZ_X3, wC_yX3_fail, by decide +kernel⟩
theorem k_X3_readSign : aCal RX3 yX3_readSign cX3_readSign 2 (some .boolean) 1 := ⟨wI_yX3_readSign, wE_yX3_readSign, wZ_X3, wC_yX3_readSign, by decide +kernel⟩
theorem k_X3_readNumber : aCal RX3 yX3_readNumber cX3_readNumber 4 (some .int) 2 := ⟨wI_yX3_readNumber, wE_yX3_readNumber, wZ_X3, wC_yX3_readNumber, by decide +kernel⟩
theorem k_X3_readOnce : aCal RX3 yX3_readOnce cX3_readOnce 2 (some .boolean) 1 := ⟨wI_yX3_readOnce, wE_yX3_readOnce, wZ_X3, wC_yX3_readOnce, by decide +kernel⟩
theorem k_X3_readSetting : aCal RX3 yX3_readSetting cX3_readSetting 3 (some .boolean) 1 := ⟨wI_yX3_readSetting, wE_yX3_readSetting, wZ_X3, wC_yX3_readSetting, by decide +kernel⟩
theorem k_X3_readValues : aCal RX3 yX3_readValues cX3_readValues 4 (some .boolean) 1 := ⟨wI_yX3_readValues, wE_yX3_readValues, wZ_X3, wC_yX3_readValues, by decide +kernel⟩
theorem k_X3_readFiller : aCal RX3 yX3_readFiller cX3_readFiller 1 (some .boolean) 0 := ⟨wI_yX3_readFiller, wE_yX3_readFiller, wZ_X3, wC_yX3_readFiller, by decide +kernel⟩
theorem k_X3_readTold : aCal RX3 yX3_readTold cX3_readTold 4 (some .boolean) 0 := ⟨wI_yX3_readTold, wE_yX3_readTold, wZ_X3, wC_yX3_readTold, by decide +kernel⟩
def rm_X4_isLetter : Room := { frames := 0, cells := 0, slots := 0, locals := 0 }
set_option maxHeartbeats 4000000 in
set_option maxRecDepth 100000 in
theorem c_X4_isLetter (l : Launch) {x1 : Int32} {ι : iS} {res : Int32 × iS} (hM : m_X4_isLetter x1 ι = some res) : aM l yX4_isLetter cX4_isLetter 2 (some .boolean) rm_X4_isLetter (fun ad => [.ref (ad 24), .int x1]) (aG ι) (some (.int res.1)) (aG res.2) := by
  refine aM.of (by decide) (fun _ => Nat.le_of_ble_eq_true rfl) ?_
  intro p e s m args below meth c D dA ad adV A ls C hw hl
  have C : aX p m c cX4_isLetter 2 s args aTs RX4 meth (some .boolean) := C
  have hx := C.1.1
  have hb := C.1.2.1
  have hml := C.1.2.2.1
  have hown := C.1.2.2.2.1
  have hts := C.1.2.2.2.2
  have hl : lv_has ls 2 [(0, .ref (ad 24)), (1, .int x1)] := hl
  unfold m_X4_isLetter at hM
  refine lv_aload_n hx hb dX4_isLetter_0 rfl (lv_at hl 0 rfl) ?_
  obtain ⟨hq, hM⟩ := h_g hM
  refine a_getp (q := 1) (σ := aG ι) (o := 24) (T := TX4) (N := 6) C wU_X4 hw rfl (by decide) rfl 4 (by decide) rfl wF_X4_25 (aG_Pm rfl hq) dX4_isLetter_1 ?_
  refine lv_iload_n hx hb dX4_isLetter_4 rfl (lv_at hl 1 rfl) ?_
  obtain ⟨hi, hM⟩ := h_i hM
  refine a_bald (σ := aG ι) (o := 1) C hw rfl hi rfl dX4_isLetter_5 ?_
  refine lv_bipush (v := (97 : Int32)) hx hb dX4_isLetter_6 (by decide) ?_
  refine lv_icmp_lt (tgt := 26) hx hb dX4_isLetter_8 (by decide) (fun hc => ?_) (fun hc => ?_)
  · replace hM := h_t hc hM
    refine lv_iconst (v := (0 : Int32)) hx hb dX4_isLetter_26 (by decide) ?_
    cases h_e hM
    exact a_zret C (zn (v := 0) (Or.inl rfl)) hw dX4_isLetter_27
  · replace hM := h_f hc hM
    refine lv_aload_n hx hb dX4_isLetter_11 rfl (lv_at hl 0 rfl) ?_
    obtain ⟨hq, hM⟩ := h_g hM
    refine a_getp (q := 1) (σ := aG ι) (o := 24) (T := TX4) (N := 6) C wU_X4 hw rfl (by decide) rfl 4 (by decide) rfl wF_X4_25 (aG_Pm rfl hq) dX4_isLetter_12 ?_
    refine lv_iload_n hx hb dX4_isLetter_15 rfl (lv_at hl 1 rfl) ?_
    obtain ⟨hi, hM⟩ := h_i hM
    refine a_bald (σ := aG ι) (o := 1) C hw rfl hi rfl dX4_isLetter_16 ?_
    refine lv_bipush (v := (122 : Int32)) hx hb dX4_isLetter_17 (by decide) ?_
    refine lv_icmp_gt (tgt := 26) hx hb dX4_isLetter_19 (by decide) (fun hc => ?_) (fun hc => ?_)
    · replace hM := h_t hc hM
      refine lv_iconst (v := (0 : Int32)) hx hb dX4_isLetter_26 (by decide) ?_
      cases h_e hM
      exact a_zret C (zn (v := 0) (Or.inl rfl)) hw dX4_isLetter_27
    · replace hM := h_f hc hM
      refine lv_iconst (v := (1 : Int32)) hx hb dX4_isLetter_22 (by decide) ?_
      refine lv_goto (tgt := 27) hx hb dX4_isLetter_23 (by decide) ?_
      cases h_e hM
      exact a_zret C (zn (v := 1) (Or.inr rfl)) hw dX4_isLetter_27
def rm_X4_isDigit : Room := { frames := 0, cells := 0, slots := 0, locals := 0 }
set_option maxHeartbeats 4000000 in
set_option maxRecDepth 100000 in
theorem c_X4_isDigit (l : Launch) {x1 : Int32} {ι : iS} {res : Int32 × iS} (hM : m_X4_isDigit x1 ι = some res) : aM l yX4_isDigit cX4_isDigit 2 (some .boolean) rm_X4_isDigit (fun ad => [.ref (ad 24), .int x1]) (aG ι) (some (.int res.1)) (aG res.2) := by
  refine aM.of (by decide) (fun _ => Nat.le_of_ble_eq_true rfl) ?_
  intro p e s m args below meth c D dA ad adV A ls C hw hl
  have C : aX p m c cX4_isDigit 2 s args aTs RX4 meth (some .boolean) := C
  have hx := C.1.1
  have hb := C.1.2.1
  have hml := C.1.2.2.1
  have hown := C.1.2.2.2.1
  have hts := C.1.2.2.2.2
  have hl : lv_has ls 2 [(0, .ref (ad 24)), (1, .int x1)] := hl
  unfold m_X4_isDigit at hM
  refine lv_aload_n hx hb dX4_isDigit_0 rfl (lv_at hl 0 rfl) ?_
  obtain ⟨hq, hM⟩ := h_g hM
  refine a_getp (q := 1) (σ := aG ι) (o := 24) (T := TX4) (N := 6) C wU_X4 hw rfl (by decide) rfl 4 (by decide) rfl wF_X4_25 (aG_Pm rfl hq) dX4_isDigit_1 ?_
  refine lv_iload_n hx hb dX4_isDigit_4 rfl (lv_at hl 1 rfl) ?_
  obtain ⟨hi, hM⟩ := h_i hM
  refine a_bald (σ := aG ι) (o := 1) C hw rfl hi rfl dX4_isDigit_5 ?_
  refine lv_bipush (v := (48 : Int32)) hx hb dX4_isDigit_6 (by decide) ?_
  refine lv_icmp_lt (tgt := 26) hx hb dX4_isDigit_8 (by decide) (fun hc => ?_) (fun hc => ?_)
  · replace hM := h_t hc hM
    refine lv_iconst (v := (0 : Int32)) hx hb dX4_isDigit_26 (by decide) ?_
    cases h_e hM
    exact a_zret C (zn (v := 0) (Or.inl rfl)) hw dX4_isDigit_27
  · replace hM := h_f hc hM
    refine lv_aload_n hx hb dX4_isDigit_11 rfl (lv_at hl 0 rfl) ?_
    obtain ⟨hq, hM⟩ := h_g hM
    refine a_getp (q := 1) (σ := aG ι) (o := 24) (T := TX4) (N := 6) C wU_X4 hw rfl (by decide) rfl 4 (by decide) rfl wF_X4_25 (aG_Pm rfl hq) dX4_isDigit_12 ?_
    refine lv_iload_n hx hb dX4_isDigit_15 rfl (lv_at hl 1 rfl) ?_
    obtain ⟨hi, hM⟩ := h_i hM
    refine a_bald (σ := aG ι) (o := 1) C hw rfl hi rfl dX4_isDigit_16 ?_
    refine lv_bipush (v := (57 : Int32)) hx hb dX4_isDigit_17 (by decide) ?_
    refine lv_icmp_gt (tgt := 26) hx hb dX4_isDigit_19 (by decide) (fun hc => ?_) (fun hc => ?_)
    · replace hM := h_t hc hM
      refine lv_iconst (v := (0 : Int32)) hx hb dX4_isDigit_26 (by decide) ?_
      cases h_e hM
      exact a_zret C (zn (v := 0) (Or.inl rfl)) hw dX4_isDigit_27
    · replace hM := h_f hc hM
      refine lv_iconst (v := (1 : Int32)) hx hb dX4_isDigit_22 (by decide) ?_
      refine lv_goto (tgt := 27) hx hb dX4_isDigit_23 (by decide) ?_
      cases h_e hM
      exact a_zret C (zn (v := 1) (Or.inr rfl)) hw dX4_isDigit_27
def rm_X4_put : Room := { frames := 0, cells := 0, slots := 0, locals := 0 }
set_option maxHeartbeats 4000000 in
set_option maxRecDepth 100000 in
theorem c_X4_put (l : Launch) {x1 : Int32} {x2 : Int32} {x3 : Int32} {ι : iS} {res : iS} (hM : m_X4_put x1 x2 x3 ι = some res) : aM l yX4_put cX4_put 4 none rm_X4_put (fun ad => [.ref (ad 24), .int x1, .int x2, .int x3]) (aG ι) none (aG res) := by
  refine aM.of (by decide) (fun _ => Nat.le_of_ble_eq_true rfl) ?_
  intro p e s m args below meth c D dA ad adV A ls C hw hl
  have C : aX p m c cX4_put 4 s args aTs RX4 meth none := C
  have hx := C.1.1
  have hb := C.1.2.1
  have hml := C.1.2.2.1
  have hown := C.1.2.2.2.1
  have hts := C.1.2.2.2.2
  have hl : lv_has ls 4 [(0, .ref (ad 24)), (1, .int x1), (2, .int x2), (3, .int x3)] := hl
  unfold m_X4_put at hM
  refine lv_aload_n hx hb dX4_put_0 rfl (lv_at hl 0 rfl) ?_
  refine a_geti (σ := aG ι) (o := 24) (T := TX4) (N := 6) C wU_X4 hw rfl (by decide) rfl 3 (by decide) rfl wF_X4_21 dX4_put_1 ?_
  refine lv_aload_n hx hb dX4_put_4 rfl (lv_at hl 0 rfl) ?_
  refine a_getp (q := 25) (σ := aG ι) (o := 24) (T := TX4) (N := 6) C wU_X4 hw rfl (by decide) rfl 0 (by decide) rfl wF_X4_9 (aG_P rfl rfl) dX4_put_5 ?_
  refine a_alen (σ := aG ι) (v := (501 : Int32)) C hw rfl (by decide) (by decide) (by decide) dX4_put_8 ?_
  refine lv_icmp_ge (tgt := 52) hx hb dX4_put_9 (by decide) (fun hc => ?_) (fun hc => ?_)
  · replace hM := h_t hc hM
    cases h_e hM
    exact a_vret C hw dX4_put_52
  · replace hM := h_f hc hM
    refine lv_aload_n hx hb dX4_put_12 rfl (lv_at hl 0 rfl) ?_
    refine a_getp (q := 25) (σ := aG ι) (o := 24) (T := TX4) (N := 6) C wU_X4 hw rfl (by decide) rfl 0 (by decide) rfl wF_X4_9 (aG_P rfl rfl) dX4_put_13 ?_
    refine lv_aload_n hx hb dX4_put_16 rfl (lv_at hl 0 rfl) ?_
    refine a_geti (σ := aG ι) (o := 24) (T := TX4) (N := 6) C wU_X4 hw rfl (by decide) rfl 3 (by decide) rfl wF_X4_21 dX4_put_17 ?_
    refine lv_iload_n hx hb dX4_put_20 rfl (lv_at hl 1 rfl) ?_
    obtain ⟨hi, hM⟩ := h_i hM
    refine a_iast (σ := aG ι) (o := 25) C hw rfl hi rfl dX4_put_21 (fun H locs hw => ?_)
    have hw : aW D dA ad adV (aG (pI ι 25 (gI ι 24 3).toNatClampNeg x1)) A s H locs := by rw [aG_PI] at hw; exact hw
    refine lv_aload_n hx hb dX4_put_22 rfl (lv_at hl 0 rfl) ?_
    refine a_getp (q := 26) (σ := aG (pI ι 25 (gI ι 24 3).toNatClampNeg x1)) (o := 24) (T := TX4) (N := 6) C wU_X4 hw rfl (by decide) rfl 1 (by decide) rfl wF_X4_15 (aG_P rfl rfl) dX4_put_23 ?_
    refine lv_aload_n hx hb dX4_put_26 rfl (lv_at hl 0 rfl) ?_
    refine a_geti (σ := aG (pI ι 25 (gI ι 24 3).toNatClampNeg x1)) (o := 24) (T := TX4) (N := 6) C wU_X4 hw rfl (by decide) rfl 3 (by decide) rfl wF_X4_21 dX4_put_27 ?_
    refine lv_iload_n hx hb dX4_put_30 rfl (lv_at hl 2 rfl) ?_
    obtain ⟨hi, hM⟩ := h_i hM
    refine a_iast (σ := aG (pI ι 25 (gI ι 24 3).toNatClampNeg x1)) (o := 26) C hw rfl hi rfl dX4_put_31 (fun H locs hw => ?_)
    have hw : aW D dA ad adV (aG (pI (pI ι 25 (gI ι 24 3).toNatClampNeg x1) 26 (gI (pI ι 25 (gI ι 24 3).toNatClampNeg x1) 24 3).toNatClampNeg x2)) A s H locs := by rw [aG_PI] at hw; exact hw
    refine lv_aload_n hx hb dX4_put_32 rfl (lv_at hl 0 rfl) ?_
    refine a_getp (q := 27) (σ := aG (pI (pI ι 25 (gI ι 24 3).toNatClampNeg x1) 26 (gI (pI ι 25 (gI ι 24 3).toNatClampNeg x1) 24 3).toNatClampNeg x2)) (o := 24) (T := TX4) (N := 6) C wU_X4 hw rfl (by decide) rfl 2 (by decide) rfl wF_X4_18 (aG_P rfl rfl) dX4_put_33 ?_
    refine lv_aload_n hx hb dX4_put_36 rfl (lv_at hl 0 rfl) ?_
    refine a_geti (σ := aG (pI (pI ι 25 (gI ι 24 3).toNatClampNeg x1) 26 (gI (pI ι 25 (gI ι 24 3).toNatClampNeg x1) 24 3).toNatClampNeg x2)) (o := 24) (T := TX4) (N := 6) C wU_X4 hw rfl (by decide) rfl 3 (by decide) rfl wF_X4_21 dX4_put_37 ?_
    refine lv_iload_n hx hb dX4_put_40 rfl (lv_at hl 3 rfl) ?_
    obtain ⟨hi, hM⟩ := h_i hM
    refine a_iast (σ := aG (pI (pI ι 25 (gI ι 24 3).toNatClampNeg x1) 26 (gI (pI ι 25 (gI ι 24 3).toNatClampNeg x1) 24 3).toNatClampNeg x2)) (o := 27) C hw rfl hi rfl dX4_put_41 (fun H locs hw => ?_)
    have hw : aW D dA ad adV (aG (pI (pI (pI ι 25 (gI ι 24 3).toNatClampNeg x1) 26 (gI (pI ι 25 (gI ι 24 3).toNatClampNeg x1) 24 3).toNatClampNeg x2) 27 (gI (pI (pI ι 25 (gI ι 24 3).toNatClampNeg x1) 26 (gI (pI ι 25 (gI ι 24 3).toNatClampNeg x1) 24 3).toNatClampNeg x2) 24 3).toNatClampNeg x3)) A s H locs := by rw [aG_PI] at hw; exact hw
    refine lv_aload_n hx hb dX4_put_42 rfl (lv_at hl 0 rfl) ?_
    refine lv_dup hx hb dX4_put_43 rfl ?_
    refine a_geti (σ := aG (pI (pI (pI ι 25 (gI ι 24 3).toNatClampNeg x1) 26 (gI (pI ι 25 (gI ι 24 3).toNatClampNeg x1) 24 3).toNatClampNeg x2) 27 (gI (pI (pI ι 25 (gI ι 24 3).toNatClampNeg x1) 26 (gI (pI ι 25 (gI ι 24 3).toNatClampNeg x1) 24 3).toNatClampNeg x2) 24 3).toNatClampNeg x3)) (o := 24) (T := TX4) (N := 6) C wU_X4 hw rfl (by decide) rfl 3 (by decide) rfl wF_X4_21 dX4_put_44 ?_
    refine lv_iconst (v := (1 : Int32)) hx hb dX4_put_47 (by decide) ?_
    refine lv_iadd hx hb dX4_put_48 ?_
    refine a_puti (ty := .int) (σ := aG (pI (pI (pI ι 25 (gI ι 24 3).toNatClampNeg x1) 26 (gI (pI ι 25 (gI ι 24 3).toNatClampNeg x1) 24 3).toNatClampNeg x2) 27 (gI (pI (pI ι 25 (gI ι 24 3).toNatClampNeg x1) 26 (gI (pI ι 25 (gI ι 24 3).toNatClampNeg x1) 24 3).toNatClampNeg x2) 24 3).toNatClampNeg x3)) (o := 24) (T := TX4) (N := 6) (ty0 := tyX4) C wU_X4 tyX4_ok nmX4 hw rfl (by decide) rfl 3 (by decide) rfl wF_X4_21 rfl (by decide +kernel) rfl rfl dX4_put_49 (fun H locs hw => ?_)
    have hw : aW D dA ad adV (aG (pI (pI (pI (pI ι 25 (gI ι 24 3).toNatClampNeg x1) 26 (gI (pI ι 25 (gI ι 24 3).toNatClampNeg x1) 24 3).toNatClampNeg x2) 27 (gI (pI (pI ι 25 (gI ι 24 3).toNatClampNeg x1) 26 (gI (pI ι 25 (gI ι 24 3).toNatClampNeg x1) 24 3).toNatClampNeg x2) 24 3).toNatClampNeg x3) 24 3 ((gI (pI (pI (pI ι 25 (gI ι 24 3).toNatClampNeg x1) 26 (gI (pI ι 25 (gI ι 24 3).toNatClampNeg x1) 24 3).toNatClampNeg x2) 27 (gI (pI (pI ι 25 (gI ι 24 3).toNatClampNeg x1) 26 (gI (pI ι 25 (gI ι 24 3).toNatClampNeg x1) 24 3).toNatClampNeg x2) 24 3).toNatClampNeg x3) 24 3) + (1 : Int32)))) A s H locs := by rw [aG_PI] at hw; exact hw
    cases h_e hM
    exact a_vret C hw dX4_put_52
def rm_X4_scanOne : Room := { frames := 1, cells := 0, slots := 0, locals := 28 }
set_option maxHeartbeats 4000000 in
set_option maxRecDepth 100000 in
theorem tl_X4_scanOne_69 (l : Launch) {p : Program} {e : Env} {s : State} {m : MethodId} {args : Array Value} {below : List Frame} {meth : Method} {c : Code} {D : va_G} {dA : Nat → ClassId} {ad adV : Nat → Nat} {A : Nat → Prop} (C : aX p m c cX4_scanOne 4 s args aTs RX4 meth (some .int)) {res : Int32 × iS} : ∀ (n : Nat) (y1 : Int32) (y2 : Int32) (y3 : Int32) {ι : iS}, l_X4_scanOne_69 n y1 y2 y3 ι = some res → ∀ {H : Heap} {locs : List Loc} {ls : Array Slot}, aW D dA ad adV (aG ι) A s H locs → lv_has ls 4 [(0, .ref (ad 24)), (1, .int y1), (2, .int y2), (3, .int y3)] → W p l e rm_X4_scanOne s m args below meth c H locs 0 0 (MQ below (aQ D dA ad (aG res.2) A (some (.int res.1))) args s 0 0 A) (F0 m 69 ls []) := by
  have hx := C.1.1
  have hb := C.1.2.1
  have hml := C.1.2.2.1
  have hown := C.1.2.2.2.1
  have hts := C.1.2.2.2.2
  intro n
  induction n with
  | zero => intro y1 y2 y3 ι hM; simp [l_X4_scanOne_69] at hM
  | succ n ih =>
    intro y1 y2 y3 ι hM H locs ls hw hl
    rw [l_X4_scanOne_69] at hM
    refine lv_iload_n hx hb dX4_scanOne_69 rfl (lv_at hl 2 rfl) ?_
    refine lv_aload_n hx hb dX4_scanOne_70 rfl (lv_at hl 0 rfl) ?_
    refine a_geti (σ := aG ι) (o := 24) (T := TX4) (N := 6) C wU_X4 hw rfl (by decide) rfl 5 (by decide) rfl wF_X4_29 dX4_scanOne_71 ?_
    refine lv_icmp_ge (tgt := 112) hx hb dX4_scanOne_74 (by decide) (fun hc => ?_) (fun hc => ?_)
    · replace hM := h_t hc hM
      refine lv_aload_n hx hb dX4_scanOne_112 rfl (lv_at hl 0 rfl) ?_
      refine lv_iconst (v := (2 : Int32)) hx hb dX4_scanOne_113 (by decide) ?_
      refine lv_iload_n hx hb dX4_scanOne_114 rfl (lv_at hl 1 rfl) ?_
      refine lv_iload_n hx hb dX4_scanOne_115 rfl (lv_at hl 3 rfl) ?_
      obtain ⟨r116, hr116, hM⟩ := h_b hM
      refine a_callV (σ' := aG r116) (v := none) (As := fun ad => [.int (2 : Int32), .int y1, .int y3]) (rest := []) (o := 24) C hw (c_X4_put l hr116) k_X4_put wM_X4_46 ⟨⟨rfl, rfl⟩, ⟨Nat.le_of_ble_eq_true rfl, Nat.le_of_ble_eq_true rfl⟩⟩ rfl (by decide) rfl rfl rfl hl rfl (Nat.le_of_ble_eq_true rfl) dX4_scanOne_116 ⟨Nat.zero_le _, Nat.zero_le _⟩ (fun H locs hw => ?_)
      refine lv_iload_n hx hb dX4_scanOne_119 rfl (lv_at hl 2 rfl) ?_
      cases h_e hM
      exact a_iret C hw dX4_scanOne_120
    · replace hM := h_f hc hM
      refine lv_aload_n hx hb dX4_scanOne_77 rfl (lv_at hl 0 rfl) ?_
      refine lv_iload_n hx hb dX4_scanOne_78 rfl (lv_at hl 2 rfl) ?_
      obtain ⟨r79, hr79, hM⟩ := h_b hM
      refine a_callV (σ' := aG r79.2) (v := (some (.int r79.1))) (As := fun ad => [.int y2]) (rest := []) (o := 24) C hw (c_X4_isDigit l hr79) k_X4_isDigit wM_X4_54 ⟨⟨rfl, rfl⟩, ⟨Nat.le_of_ble_eq_true rfl, Nat.le_of_ble_eq_true rfl⟩⟩ rfl (by decide) rfl rfl rfl hl rfl (Nat.le_of_ble_eq_true rfl) dX4_scanOne_79 ⟨Nat.zero_le _, Nat.zero_le _⟩ (fun H locs hw => ?_)
      refine lv_if_eq (tgt := 112) hx hb dX4_scanOne_82 (by decide) (fun hc => ?_) (fun hc => ?_)
      · replace hM := h_t hc hM
        refine lv_aload_n hx hb dX4_scanOne_112 rfl (lv_at hl 0 rfl) ?_
        refine lv_iconst (v := (2 : Int32)) hx hb dX4_scanOne_113 (by decide) ?_
        refine lv_iload_n hx hb dX4_scanOne_114 rfl (lv_at hl 1 rfl) ?_
        refine lv_iload_n hx hb dX4_scanOne_115 rfl (lv_at hl 3 rfl) ?_
        obtain ⟨r116, hr116, hM⟩ := h_b hM
        refine a_callV (σ' := aG r116) (v := none) (As := fun ad => [.int (2 : Int32), .int y1, .int y3]) (rest := []) (o := 24) C hw (c_X4_put l hr116) k_X4_put wM_X4_46 ⟨⟨rfl, rfl⟩, ⟨Nat.le_of_ble_eq_true rfl, Nat.le_of_ble_eq_true rfl⟩⟩ rfl (by decide) rfl rfl rfl hl rfl (Nat.le_of_ble_eq_true rfl) dX4_scanOne_116 ⟨Nat.zero_le _, Nat.zero_le _⟩ (fun H locs hw => ?_)
        refine lv_iload_n hx hb dX4_scanOne_119 rfl (lv_at hl 2 rfl) ?_
        cases h_e hM
        exact a_iret C hw dX4_scanOne_120
      · replace hM := h_f hc hM
        refine lv_sipush (v := (1000 : Int32)) hx hb dX4_scanOne_85 (by decide) ?_
        refine lv_bipush (v := (10 : Int32)) hx hb dX4_scanOne_88 (by decide) ?_
        refine lv_iload_n hx hb dX4_scanOne_90 rfl (lv_at hl 3 rfl) ?_
        refine lv_imul hx hb dX4_scanOne_91 ?_
        refine lv_aload_n hx hb dX4_scanOne_92 rfl (lv_at hl 0 rfl) ?_
        obtain ⟨hq, hM⟩ := h_g hM
        refine a_getp (q := 1) (σ := aG r79.2) (o := 24) (T := TX4) (N := 6) C wU_X4 hw rfl (by decide) rfl 4 (by decide) rfl wF_X4_25 (aG_Pm rfl hq) dX4_scanOne_93 ?_
        refine lv_iload_n hx hb dX4_scanOne_96 rfl (lv_at hl 2 rfl) ?_
        obtain ⟨hi, hM⟩ := h_i hM
        refine a_bald (σ := aG r79.2) (o := 1) C hw rfl hi rfl dX4_scanOne_97 ?_
        refine lv_iadd hx hb dX4_scanOne_98 ?_
        refine lv_bipush (v := (48 : Int32)) hx hb dX4_scanOne_99 (by decide) ?_
        refine lv_isub hx hb dX4_scanOne_101 ?_
        refine va_mmin hx hb (hml.trans hl.1.symm) hown (hts _ wM_X4_32) (hts _ wS_Lib_Math_min_name) (hts _ wZ_J9) (hts _ wC_Lib_Math_min_name) (Nat.le_of_ble_eq_true rfl) (Nat.le_of_ble_eq_true rfl) (Nat.zero_le _) (Nat.zero_le _) dX4_scanOne_102 ?_
        refine lv_istore_n (lv' := [(3, .int (if ((((10 : Int32) * y3) + (gI r79.2 1 y2.toNatClampNeg)) - (48 : Int32)) < (1000 : Int32) then ((((10 : Int32) * y3) + (gI r79.2 1 y2.toNatClampNeg)) - (48 : Int32)) else (1000 : Int32))), (0, .ref (ad 24)), (1, .int y1), (2, .int y2)]) hx hb dX4_scanOne_105 rfl hl (by decide) rfl (fun ls hl => ?_)
        refine lv_iinc (v := (y2 + 1)) (lv' := [(2, .int (y2 + 1)), (3, .int (if ((((10 : Int32) * y3) + (gI r79.2 1 y2.toNatClampNeg)) - (48 : Int32)) < (1000 : Int32) then ((((10 : Int32) * y3) + (gI r79.2 1 y2.toNatClampNeg)) - (48 : Int32)) else (1000 : Int32))), (0, .ref (ad 24)), (1, .int y1)]) hx hb dX4_scanOne_106 hl (k := 3) rfl rfl (by decide) rfl (fun ls hl => ?_)
        refine lv_goto (tgt := 69) hx hb dX4_scanOne_109 (by decide) ?_
        exact ih (y1) ((y2 + 1)) ((if ((((10 : Int32) * y3) + (gI r79.2 1 y2.toNatClampNeg)) - (48 : Int32)) < (1000 : Int32) then ((((10 : Int32) * y3) + (gI r79.2 1 y2.toNatClampNeg)) - (48 : Int32)) else (1000 : Int32))) hM hw (lv_sub hl [2, 3, 0, 1] rfl)
set_option maxHeartbeats 4000000 in
set_option maxRecDepth 100000 in
theorem tl_X4_scanOne_10 (l : Launch) {p : Program} {e : Env} {s : State} {m : MethodId} {args : Array Value} {below : List Frame} {meth : Method} {c : Code} {D : va_G} {dA : Nat → ClassId} {ad adV : Nat → Nat} {A : Nat → Prop} (C : aX p m c cX4_scanOne 4 s args aTs RX4 meth (some .int)) {res : Int32 × iS} : ∀ (n : Nat) (y1 : Int32) (y2 : Int32) {ι : iS}, l_X4_scanOne_10 n y1 y2 ι = some res → ∀ {H : Heap} {locs : List Loc} {ls : Array Slot}, aW D dA ad adV (aG ι) A s H locs → lv_has ls 4 [(0, .ref (ad 24)), (1, .int y1), (2, .int y2)] → W p l e rm_X4_scanOne s m args below meth c H locs 0 0 (MQ below (aQ D dA ad (aG res.2) A (some (.int res.1))) args s 0 0 A) (F0 m 10 ls []) := by
  have hx := C.1.1
  have hb := C.1.2.1
  have hml := C.1.2.2.1
  have hown := C.1.2.2.2.1
  have hts := C.1.2.2.2.2
  intro n
  induction n with
  | zero => intro y1 y2 ι hM; simp [l_X4_scanOne_10] at hM
  | succ n ih =>
    intro y1 y2 ι hM H locs ls hw hl
    rw [l_X4_scanOne_10] at hM
    refine lv_iload_n hx hb dX4_scanOne_10 rfl (lv_at hl 2 rfl) ?_
    refine lv_aload_n hx hb dX4_scanOne_11 rfl (lv_at hl 0 rfl) ?_
    refine a_geti (σ := aG ι) (o := 24) (T := TX4) (N := 6) C wU_X4 hw rfl (by decide) rfl 5 (by decide) rfl wF_X4_29 dX4_scanOne_12 ?_
    refine lv_icmp_ge (tgt := 32) hx hb dX4_scanOne_15 (by decide) (fun hc => ?_) (fun hc => ?_)
    · replace hM := h_t hc hM
      refine lv_aload_n hx hb dX4_scanOne_32 rfl (lv_at hl 0 rfl) ?_
      refine lv_iconst (v := (1 : Int32)) hx hb dX4_scanOne_33 (by decide) ?_
      refine lv_iload_n hx hb dX4_scanOne_34 rfl (lv_at hl 1 rfl) ?_
      refine lv_iload_n hx hb dX4_scanOne_35 rfl (lv_at hl 2 rfl) ?_
      refine lv_iload_n hx hb dX4_scanOne_36 rfl (lv_at hl 1 rfl) ?_
      refine lv_isub hx hb dX4_scanOne_37 ?_
      obtain ⟨r38, hr38, hM⟩ := h_b hM
      refine a_callV (σ' := aG r38) (v := none) (As := fun ad => [.int (1 : Int32), .int y1, .int (y2 - y1)]) (rest := []) (o := 24) C hw (c_X4_put l hr38) k_X4_put wM_X4_46 ⟨⟨rfl, rfl⟩, ⟨Nat.le_of_ble_eq_true rfl, Nat.le_of_ble_eq_true rfl⟩⟩ rfl (by decide) rfl rfl rfl hl rfl (Nat.le_of_ble_eq_true rfl) dX4_scanOne_38 ⟨Nat.zero_le _, Nat.zero_le _⟩ (fun H locs hw => ?_)
      refine lv_iload_n hx hb dX4_scanOne_41 rfl (lv_at hl 2 rfl) ?_
      cases h_e hM
      exact a_iret C hw dX4_scanOne_42
    · replace hM := h_f hc hM
      refine lv_aload_n hx hb dX4_scanOne_18 rfl (lv_at hl 0 rfl) ?_
      refine lv_iload_n hx hb dX4_scanOne_19 rfl (lv_at hl 2 rfl) ?_
      obtain ⟨r20, hr20, hM⟩ := h_b hM
      refine a_callV (σ' := aG r20.2) (v := (some (.int r20.1))) (As := fun ad => [.int y2]) (rest := []) (o := 24) C hw (c_X4_isLetter l hr20) k_X4_isLetter wM_X4_50 ⟨⟨rfl, rfl⟩, ⟨Nat.le_of_ble_eq_true rfl, Nat.le_of_ble_eq_true rfl⟩⟩ rfl (by decide) rfl rfl rfl hl rfl (Nat.le_of_ble_eq_true rfl) dX4_scanOne_20 ⟨Nat.zero_le _, Nat.zero_le _⟩ (fun H locs hw => ?_)
      refine lv_if_eq (tgt := 32) hx hb dX4_scanOne_23 (by decide) (fun hc => ?_) (fun hc => ?_)
      · replace hM := h_t hc hM
        refine lv_aload_n hx hb dX4_scanOne_32 rfl (lv_at hl 0 rfl) ?_
        refine lv_iconst (v := (1 : Int32)) hx hb dX4_scanOne_33 (by decide) ?_
        refine lv_iload_n hx hb dX4_scanOne_34 rfl (lv_at hl 1 rfl) ?_
        refine lv_iload_n hx hb dX4_scanOne_35 rfl (lv_at hl 2 rfl) ?_
        refine lv_iload_n hx hb dX4_scanOne_36 rfl (lv_at hl 1 rfl) ?_
        refine lv_isub hx hb dX4_scanOne_37 ?_
        obtain ⟨r38, hr38, hM⟩ := h_b hM
        refine a_callV (σ' := aG r38) (v := none) (As := fun ad => [.int (1 : Int32), .int y1, .int (y2 - y1)]) (rest := []) (o := 24) C hw (c_X4_put l hr38) k_X4_put wM_X4_46 ⟨⟨rfl, rfl⟩, ⟨Nat.le_of_ble_eq_true rfl, Nat.le_of_ble_eq_true rfl⟩⟩ rfl (by decide) rfl rfl rfl hl rfl (Nat.le_of_ble_eq_true rfl) dX4_scanOne_38 ⟨Nat.zero_le _, Nat.zero_le _⟩ (fun H locs hw => ?_)
        refine lv_iload_n hx hb dX4_scanOne_41 rfl (lv_at hl 2 rfl) ?_
        cases h_e hM
        exact a_iret C hw dX4_scanOne_42
      · replace hM := h_f hc hM
        refine lv_iinc (v := (y2 + 1)) (lv' := [(2, .int (y2 + 1)), (0, .ref (ad 24)), (1, .int y1)]) hx hb dX4_scanOne_26 hl (k := 2) rfl rfl (by decide) rfl (fun ls hl => ?_)
        refine lv_goto (tgt := 10) hx hb dX4_scanOne_29 (by decide) ?_
        exact ih (y1) ((y2 + 1)) hM hw (lv_sub hl [1, 2, 0] rfl)
set_option maxHeartbeats 4000000 in
set_option maxRecDepth 100000 in
theorem c_X4_scanOne (l : Launch) {x1 : Int32} {ι : iS} {res : Int32 × iS} (hM : m_X4_scanOne x1 ι = some res) : aM l yX4_scanOne cX4_scanOne 4 (some .int) rm_X4_scanOne (fun ad => [.ref (ad 24), .int x1]) (aG ι) (some (.int res.1)) (aG res.2) := by
  refine aM.of (by decide) (fun _ => Nat.le_of_ble_eq_true rfl) ?_
  intro p e s m args below meth c D dA ad adV A ls C hw hl
  have C : aX p m c cX4_scanOne 4 s args aTs RX4 meth (some .int) := C
  have hx := C.1.1
  have hb := C.1.2.1
  have hml := C.1.2.2.1
  have hown := C.1.2.2.2.1
  have hts := C.1.2.2.2.2
  have hl : lv_has ls 4 [(0, .ref (ad 24)), (1, .int x1)] := hl
  unfold m_X4_scanOne at hM
  refine lv_iload_n hx hb dX4_scanOne_0 rfl (lv_at hl 1 rfl) ?_
  refine lv_istore_n (lv' := [(2, .int x1), (0, .ref (ad 24)), (1, .int x1)]) hx hb dX4_scanOne_1 rfl hl (by decide) rfl (fun ls hl => ?_)
  refine lv_aload_n hx hb dX4_scanOne_2 rfl (lv_at hl 1 rfl) ?_
  refine lv_iload_n hx hb dX4_scanOne_3 rfl (lv_at hl 2 rfl) ?_
  obtain ⟨r4, hr4, hM⟩ := h_b hM
  refine a_callV (σ' := aG r4.2) (v := (some (.int r4.1))) (As := fun ad => [.int x1]) (rest := []) (o := 24) C hw (c_X4_isLetter l hr4) k_X4_isLetter wM_X4_50 ⟨⟨rfl, rfl⟩, ⟨Nat.le_of_ble_eq_true rfl, Nat.le_of_ble_eq_true rfl⟩⟩ rfl (by decide) rfl rfl rfl hl rfl (Nat.le_of_ble_eq_true rfl) dX4_scanOne_4 ⟨Nat.zero_le _, Nat.zero_le _⟩ (fun H locs hw => ?_)
  refine lv_if_eq (tgt := 43) hx hb dX4_scanOne_7 (by decide) (fun hc => ?_) (fun hc => ?_)
  · replace hM := h_t hc hM
    refine lv_aload_n hx hb dX4_scanOne_43 rfl (lv_at hl 1 rfl) ?_
    refine lv_iload_n hx hb dX4_scanOne_44 rfl (lv_at hl 2 rfl) ?_
    obtain ⟨r45, hr45, hM⟩ := h_b hM
    refine a_callV (σ' := aG r45.2) (v := (some (.int r45.1))) (As := fun ad => [.int x1]) (rest := []) (o := 24) C hw (c_X4_isDigit l hr45) k_X4_isDigit wM_X4_54 ⟨⟨rfl, rfl⟩, ⟨Nat.le_of_ble_eq_true rfl, Nat.le_of_ble_eq_true rfl⟩⟩ rfl (by decide) rfl rfl rfl hl rfl (Nat.le_of_ble_eq_true rfl) dX4_scanOne_45 ⟨Nat.zero_le _, Nat.zero_le _⟩ (fun H locs hw => ?_)
    refine lv_if_ne (tgt := 67) hx hb dX4_scanOne_48 (by decide) (fun hc => ?_) (fun hc => ?_)
    · replace hM := h_f hc hM
      refine lv_iconst (v := (0 : Int32)) hx hb dX4_scanOne_67 (by decide) ?_
      refine lv_istore_n (lv' := [(3, .int (0 : Int32)), (2, .int x1), (0, .ref (ad 24)), (1, .int x1)]) hx hb dX4_scanOne_68 rfl hl (by decide) rfl (fun ls hl => ?_)
      exact tl_X4_scanOne_69 l C aF (x1) (x1) ((0 : Int32)) hM hw (lv_sub hl [2, 3, 1, 0] rfl)
    · replace hM := h_t hc hM
      refine lv_aload_n hx hb dX4_scanOne_51 rfl (lv_at hl 1 rfl) ?_
      refine lv_iconst (v := (3 : Int32)) hx hb dX4_scanOne_52 (by decide) ?_
      refine lv_iload_n hx hb dX4_scanOne_53 rfl (lv_at hl 2 rfl) ?_
      refine lv_aload_n hx hb dX4_scanOne_54 rfl (lv_at hl 1 rfl) ?_
      obtain ⟨hq, hM⟩ := h_g hM
      refine a_getp (q := 1) (σ := aG r45.2) (o := 24) (T := TX4) (N := 6) C wU_X4 hw rfl (by decide) rfl 4 (by decide) rfl wF_X4_25 (aG_Pm rfl hq) dX4_scanOne_55 ?_
      refine lv_iload_n hx hb dX4_scanOne_58 rfl (lv_at hl 2 rfl) ?_
      obtain ⟨hi, hM⟩ := h_i hM
      refine a_bald (σ := aG r45.2) (o := 1) C hw rfl hi rfl dX4_scanOne_59 ?_
      obtain ⟨r60, hr60, hM⟩ := h_b hM
      refine a_callV (σ' := aG r60) (v := none) (As := fun ad => [.int (3 : Int32), .int x1, .int (gI r45.2 1 x1.toNatClampNeg)]) (rest := []) (o := 24) C hw (c_X4_put l hr60) k_X4_put wM_X4_46 ⟨⟨rfl, rfl⟩, ⟨Nat.le_of_ble_eq_true rfl, Nat.le_of_ble_eq_true rfl⟩⟩ rfl (by decide) rfl rfl rfl hl rfl (Nat.le_of_ble_eq_true rfl) dX4_scanOne_60 ⟨Nat.zero_le _, Nat.zero_le _⟩ (fun H locs hw => ?_)
      refine lv_iload_n hx hb dX4_scanOne_63 rfl (lv_at hl 2 rfl) ?_
      refine lv_iconst (v := (1 : Int32)) hx hb dX4_scanOne_64 (by decide) ?_
      refine lv_iadd hx hb dX4_scanOne_65 ?_
      cases h_e hM
      exact a_iret C hw dX4_scanOne_66
  · replace hM := h_f hc hM
    exact tl_X4_scanOne_10 l C aF (x1) (x1) hM hw (lv_sub hl [1, 2, 0] rfl)
def rm_X4_scan : Room := { frames := 2, cells := 0, slots := 0, locals := 51 }
set_option maxHeartbeats 4000000 in
set_option maxRecDepth 100000 in
theorem tl_X4_scan_32 (l : Launch) {p : Program} {e : Env} {s : State} {m : MethodId} {args : Array Value} {below : List Frame} {meth : Method} {c : Code} {D : va_G} {dA : Nat → ClassId} {ad adV : Nat → Nat} {A : Nat → Prop} (C : aX p m c cX4_scan 5 s args aTs RX4 meth none) {res : iS} : ∀ (n : Nat) (y2 : Int32) (y3 : Int32) (y4 : Int32) {ι : iS}, l_X4_scan_32 n y2 y3 y4 ι = some res → ∀ {H : Heap} {locs : List Loc} {ls : Array Slot}, aW D dA ad adV (aG ι) A s H locs → lv_has ls 5 [(0, .ref (ad 24)), (1, .ref (ad 1)), (2, .int y2), (3, .int y3), (4, .int y4)] → W p l e rm_X4_scan s m args below meth c H locs 0 0 (MQ below (aQ D dA ad (aG res) A none) args s 0 0 A) (F0 m 32 ls []) := by
  have hx := C.1.1
  have hb := C.1.2.1
  have hml := C.1.2.2.1
  have hown := C.1.2.2.2.1
  have hts := C.1.2.2.2.2
  intro n
  induction n with
  | zero => intro y2 y3 y4 ι hM; simp [l_X4_scan_32] at hM
  | succ n ih =>
    intro y2 y3 y4 ι hM H locs ls hw hl
    rw [l_X4_scan_32] at hM
    refine lv_iload hx hb dX4_scan_32 (lv_at hl 4 rfl) ?_
    refine lv_sipush (v := (500 : Int32)) hx hb dX4_scan_34 (by decide) ?_
    refine lv_icmp_ge (tgt := 77) hx hb dX4_scan_37 (by decide) (fun hc => ?_) (fun hc => ?_)
    · replace hM := h_t hc hM
      refine lv_aload_n hx hb dX4_scan_77 rfl (lv_at hl 0 rfl) ?_
      refine lv_iconst (v := (0 : Int32)) hx hb dX4_scan_78 (by decide) ?_
      refine lv_aload_n hx hb dX4_scan_79 rfl (lv_at hl 0 rfl) ?_
      refine a_geti (σ := aG ι) (o := 24) (T := TX4) (N := 6) C wU_X4 hw rfl (by decide) rfl 5 (by decide) rfl wF_X4_29 dX4_scan_80 ?_
      refine lv_iconst (v := (0 : Int32)) hx hb dX4_scan_83 (by decide) ?_
      obtain ⟨r84, hr84, hM⟩ := h_b hM
      refine a_callV (σ' := aG r84) (v := none) (As := fun ad => [.int (0 : Int32), .int (gI ι 24 5), .int (0 : Int32)]) (rest := []) (o := 24) C hw (c_X4_put l hr84) k_X4_put wM_X4_46 ⟨⟨rfl, rfl⟩, ⟨Nat.le_of_ble_eq_true rfl, Nat.le_of_ble_eq_true rfl⟩⟩ rfl (by decide) rfl rfl rfl hl rfl (Nat.le_of_ble_eq_true rfl) dX4_scan_84 ⟨Nat.zero_le _, Nat.zero_le _⟩ (fun H locs hw => ?_)
      cases h_e hM
      exact a_vret C hw dX4_scan_87
    · replace hM := h_f hc hM
      refine lv_iload_n hx hb dX4_scan_40 rfl (lv_at hl 3 rfl) ?_
      refine lv_aload_n hx hb dX4_scan_41 rfl (lv_at hl 0 rfl) ?_
      refine a_geti (σ := aG ι) (o := 24) (T := TX4) (N := 6) C wU_X4 hw rfl (by decide) rfl 5 (by decide) rfl wF_X4_29 dX4_scan_42 ?_
      refine lv_icmp_ge (tgt := 77) hx hb dX4_scan_45 (by decide) (fun hc => ?_) (fun hc => ?_)
      · replace hM := h_t hc hM
        refine lv_aload_n hx hb dX4_scan_77 rfl (lv_at hl 0 rfl) ?_
        refine lv_iconst (v := (0 : Int32)) hx hb dX4_scan_78 (by decide) ?_
        refine lv_aload_n hx hb dX4_scan_79 rfl (lv_at hl 0 rfl) ?_
        refine a_geti (σ := aG ι) (o := 24) (T := TX4) (N := 6) C wU_X4 hw rfl (by decide) rfl 5 (by decide) rfl wF_X4_29 dX4_scan_80 ?_
        refine lv_iconst (v := (0 : Int32)) hx hb dX4_scan_83 (by decide) ?_
        obtain ⟨r84, hr84, hM⟩ := h_b hM
        refine a_callV (σ' := aG r84) (v := none) (As := fun ad => [.int (0 : Int32), .int (gI ι 24 5), .int (0 : Int32)]) (rest := []) (o := 24) C hw (c_X4_put l hr84) k_X4_put wM_X4_46 ⟨⟨rfl, rfl⟩, ⟨Nat.le_of_ble_eq_true rfl, Nat.le_of_ble_eq_true rfl⟩⟩ rfl (by decide) rfl rfl rfl hl rfl (Nat.le_of_ble_eq_true rfl) dX4_scan_84 ⟨Nat.zero_le _, Nat.zero_le _⟩ (fun H locs hw => ?_)
        cases h_e hM
        exact a_vret C hw dX4_scan_87
      · replace hM := h_f hc hM
        refine lv_aload_n hx hb dX4_scan_48 rfl (lv_at hl 0 rfl) ?_
        obtain ⟨hq, hM⟩ := h_g hM
        refine a_getp (q := 1) (σ := aG ι) (o := 24) (T := TX4) (N := 6) C wU_X4 hw rfl (by decide) rfl 4 (by decide) rfl wF_X4_25 (aG_Pm rfl hq) dX4_scan_49 ?_
        refine lv_iload_n hx hb dX4_scan_52 rfl (lv_at hl 3 rfl) ?_
        obtain ⟨hi, hM⟩ := h_i hM
        refine a_bald (σ := aG ι) (o := 1) C hw rfl hi rfl dX4_scan_53 ?_
        refine lv_bipush (v := (32 : Int32)) hx hb dX4_scan_54 (by decide) ?_
        refine lv_icmp_ne (tgt := 65) hx hb dX4_scan_56 (by decide) (fun hc => ?_) (fun hc => ?_)
        · replace hM := h_f hc hM
          refine lv_aload_n hx hb dX4_scan_65 rfl (lv_at hl 0 rfl) ?_
          refine lv_iload_n hx hb dX4_scan_66 rfl (lv_at hl 3 rfl) ?_
          obtain ⟨r67, hr67, hM⟩ := h_b hM
          refine a_callV (σ' := aG r67.2) (v := (some (.int r67.1))) (As := fun ad => [.int y3]) (rest := []) (o := 24) C hw (c_X4_scanOne l hr67) k_X4_scanOne wM_X4_42 ⟨⟨rfl, rfl⟩, ⟨Nat.le_of_ble_eq_true rfl, Nat.le_of_ble_eq_true rfl⟩⟩ rfl (by decide) rfl rfl rfl hl rfl (Nat.le_of_ble_eq_true rfl) dX4_scan_67 ⟨Nat.zero_le _, Nat.zero_le _⟩ (fun H locs hw => ?_)
          refine lv_istore_n (lv' := [(3, .int r67.1), (0, .ref (ad 24)), (1, .ref (ad 1)), (2, .int y2), (4, .int y4)]) hx hb dX4_scan_70 rfl hl (by decide) rfl (fun ls hl => ?_)
          refine lv_iinc (v := (y4 + 1)) (lv' := [(4, .int (y4 + 1)), (3, .int r67.1), (0, .ref (ad 24)), (1, .ref (ad 1)), (2, .int y2)]) hx hb dX4_scan_71 hl (k := 4) rfl rfl (by decide) rfl (fun ls hl => ?_)
          refine lv_goto (tgt := 32) hx hb dX4_scan_74 (by decide) ?_
          exact ih (y2) (r67.1) ((y4 + 1)) hM hw (lv_sub hl [2, 3, 4, 1, 0] rfl)
        · replace hM := h_t hc hM
          refine lv_iinc (v := (y3 + 1)) (lv' := [(3, .int (y3 + 1)), (0, .ref (ad 24)), (1, .ref (ad 1)), (2, .int y2), (4, .int y4)]) hx hb dX4_scan_59 hl (k := 3) rfl rfl (by decide) rfl (fun ls hl => ?_)
          refine lv_goto (tgt := 71) hx hb dX4_scan_62 (by decide) ?_
          refine lv_iinc (v := (y4 + 1)) (lv' := [(4, .int (y4 + 1)), (3, .int (y3 + 1)), (0, .ref (ad 24)), (1, .ref (ad 1)), (2, .int y2)]) hx hb dX4_scan_71 hl (k := 4) rfl rfl (by decide) rfl (fun ls hl => ?_)
          refine lv_goto (tgt := 32) hx hb dX4_scan_74 (by decide) ?_
          exact ih (y2) ((y3 + 1)) ((y4 + 1)) hM hw (lv_sub hl [2, 3, 4, 1, 0] rfl)
set_option maxHeartbeats 4000000 in
set_option maxRecDepth 100000 in
theorem c_X4_scan (l : Launch) {x2 : Int32} {ι : iS} {res : iS} (hM : m_X4_scan x2 ι = some res) : aM l yX4_scan cX4_scan 5 none rm_X4_scan (fun ad => [.ref (ad 24), .ref (ad 1), .int x2]) (aG ι) none (aG res) := by
  refine aM.of (by decide) (fun _ => Nat.le_of_ble_eq_true rfl) ?_
  intro p e s m args below meth c D dA ad adV A ls C hw hl
  have C : aX p m c cX4_scan 5 s args aTs RX4 meth none := C
  have hx := C.1.1
  have hb := C.1.2.1
  have hml := C.1.2.2.1
  have hown := C.1.2.2.2.1
  have hts := C.1.2.2.2.2
  have hl : lv_has ls 5 [(0, .ref (ad 24)), (1, .ref (ad 1)), (2, .int x2)] := hl
  unfold m_X4_scan at hM
  refine lv_aload_n hx hb dX4_scan_0 rfl (lv_at hl 0 rfl) ?_
  refine lv_aload_n hx hb dX4_scan_1 rfl (lv_at hl 1 rfl) ?_
  refine a_putp (q := 1) (ty := .array .byte) (σ := aG ι) (o := 24) (T := TX4) (N := 6) (ty0 := tyX4) C wU_X4 tyX4_ok nmX4 hw rfl (by decide) rfl 4 (by decide) rfl wF_X4_25 rfl (by decide +kernel) rfl rfl dX4_scan_2 (fun H locs hw => ?_)
  have hw : aW D dA ad adV (aG (pP ι 24 4 (some 1))) A s H locs := by rw [← aG_PP]; exact hw; rfl
  refine lv_aload_n hx hb dX4_scan_5 rfl (lv_at hl 0 rfl) ?_
  refine lv_iload_n hx hb dX4_scan_6 rfl (lv_at hl 2 rfl) ?_
  refine lv_iconst (v := (0 : Int32)) hx hb dX4_scan_7 (by decide) ?_
  refine lv_sipush (v := (500 : Int32)) hx hb dX4_scan_8 (by decide) ?_
  refine lv_aload_n hx hb dX4_scan_11 rfl (lv_at hl 1 rfl) ?_
  refine a_alen (σ := aG (pP ι 24 4 (some 1))) (v := (500 : Int32)) C hw rfl (by decide) (by decide) (by decide) dX4_scan_12 ?_
  refine va_mmin hx hb (hml.trans hl.1.symm) hown (hts _ wM_X4_32) (hts _ wS_Lib_Math_min_name) (hts _ wZ_J9) (hts _ wC_Lib_Math_min_name) (Nat.le_of_ble_eq_true rfl) (Nat.le_of_ble_eq_true rfl) (Nat.zero_le _) (Nat.zero_le _) dX4_scan_13 ?_
  obtain ⟨r16, hr16, hM⟩ := h_b hM
  refine a_callSN (host := "LineupDesk") (σ' := aG r16.2) (v := (some (.int r16.1))) (as := fun ad => [.int x2, .int (0 : Int32), .int (if (500 : Int32) < (500 : Int32) then (500 : Int32) else (500 : Int32))]) (rest := [.ref (ad 24)]) C hw (c_X6_held l hr16) k_X6_held (by decide) ⟨⟨rfl, rfl⟩, ⟨Nat.le_of_ble_eq_true rfl, Nat.le_of_ble_eq_true rfl⟩⟩ rfl hl rfl (Nat.le_of_ble_eq_true rfl) dX4_scan_16 ⟨Nat.zero_le _, Nat.zero_le _⟩ (fun H locs hw => ?_)
  refine a_puti (ty := .int) (σ := aG r16.2) (o := 24) (T := TX4) (N := 6) (ty0 := tyX4) C wU_X4 tyX4_ok nmX4 hw rfl (by decide) rfl 5 (by decide) rfl wF_X4_29 rfl (by decide +kernel) rfl rfl dX4_scan_19 (fun H locs hw => ?_)
  have hw : aW D dA ad adV (aG (pI r16.2 24 5 r16.1)) A s H locs := by rw [aG_PI] at hw; exact hw
  refine lv_aload_n hx hb dX4_scan_22 rfl (lv_at hl 0 rfl) ?_
  refine lv_iconst (v := (0 : Int32)) hx hb dX4_scan_23 (by decide) ?_
  refine a_puti (ty := .int) (σ := aG (pI r16.2 24 5 r16.1)) (o := 24) (T := TX4) (N := 6) (ty0 := tyX4) C wU_X4 tyX4_ok nmX4 hw rfl (by decide) rfl 3 (by decide) rfl wF_X4_21 rfl (by decide +kernel) rfl rfl dX4_scan_24 (fun H locs hw => ?_)
  have hw : aW D dA ad adV (aG (pI (pI r16.2 24 5 r16.1) 24 3 (0 : Int32))) A s H locs := by rw [aG_PI] at hw; exact hw
  refine lv_iconst (v := (0 : Int32)) hx hb dX4_scan_27 (by decide) ?_
  refine lv_istore_n (lv' := [(3, .int (0 : Int32)), (0, .ref (ad 24)), (1, .ref (ad 1)), (2, .int x2)]) hx hb dX4_scan_28 rfl hl (by decide) rfl (fun ls hl => ?_)
  refine lv_iconst (v := (0 : Int32)) hx hb dX4_scan_29 (by decide) ?_
  refine lv_istore (lv' := [(4, .int (0 : Int32)), (3, .int (0 : Int32)), (0, .ref (ad 24)), (1, .ref (ad 1)), (2, .int x2)]) hx hb dX4_scan_30 hl (by decide) rfl (fun ls hl => ?_)
  exact tl_X4_scan_32 l C aF (x2) ((0 : Int32)) ((0 : Int32)) hM hw (lv_sub hl [2, 3, 4, 1, 0] rfl)
def rm_X4_isEnd : Room := { frames := 0, cells := 0, slots := 0, locals := 0 }
set_option maxHeartbeats 4000000 in
set_option maxRecDepth 100000 in
theorem c_X4_isEnd (l : Launch) {x1 : Int32} {ι : iS} {res : Int32 × iS} (hM : m_X4_isEnd x1 ι = some res) : aM l yX4_isEnd cX4_isEnd 2 (some .boolean) rm_X4_isEnd (fun ad => [.ref (ad 24), .int x1]) (aG ι) (some (.int res.1)) (aG res.2) := by
  refine aM.of (by decide) (fun _ => Nat.le_of_ble_eq_true rfl) ?_
  intro p e s m args below meth c D dA ad adV A ls C hw hl
  have C : aX p m c cX4_isEnd 2 s args aTs RX4 meth (some .boolean) := C
  have hx := C.1.1
  have hb := C.1.2.1
  have hml := C.1.2.2.1
  have hown := C.1.2.2.2.1
  have hts := C.1.2.2.2.2
  have hl : lv_has ls 2 [(0, .ref (ad 24)), (1, .int x1)] := hl
  unfold m_X4_isEnd at hM
  refine lv_iload_n hx hb dX4_isEnd_0 rfl (lv_at hl 1 rfl) ?_
  refine lv_aload_n hx hb dX4_isEnd_1 rfl (lv_at hl 0 rfl) ?_
  refine a_geti (σ := aG ι) (o := 24) (T := TX4) (N := 6) C wU_X4 hw rfl (by decide) rfl 3 (by decide) rfl wF_X4_21 dX4_isEnd_2 ?_
  refine lv_icmp_ge (tgt := 17) hx hb dX4_isEnd_5 (by decide) (fun hc => ?_) (fun hc => ?_)
  · replace hM := h_t hc hM
    refine lv_iconst (v := (1 : Int32)) hx hb dX4_isEnd_17 (by decide) ?_
    refine lv_goto (tgt := 22) hx hb dX4_isEnd_18 (by decide) ?_
    cases h_e hM
    exact a_zret C (zn (v := 1) (Or.inr rfl)) hw dX4_isEnd_22
  · replace hM := h_f hc hM
    refine lv_aload_n hx hb dX4_isEnd_8 rfl (lv_at hl 0 rfl) ?_
    refine a_getp (q := 25) (σ := aG ι) (o := 24) (T := TX4) (N := 6) C wU_X4 hw rfl (by decide) rfl 0 (by decide) rfl wF_X4_9 (aG_P rfl rfl) dX4_isEnd_9 ?_
    refine lv_iload_n hx hb dX4_isEnd_12 rfl (lv_at hl 1 rfl) ?_
    obtain ⟨hi, hM⟩ := h_i hM
    refine a_iald (σ := aG ι) (o := 25) C hw rfl hi rfl dX4_isEnd_13 ?_
    refine lv_if_ne (tgt := 21) hx hb dX4_isEnd_14 (by decide) (fun hc => ?_) (fun hc => ?_)
    · replace hM := h_f hc hM
      refine lv_iconst (v := (0 : Int32)) hx hb dX4_isEnd_21 (by decide) ?_
      cases h_e hM
      exact a_zret C (zn (v := 0) (Or.inl rfl)) hw dX4_isEnd_22
    · replace hM := h_t hc hM
      refine lv_iconst (v := (1 : Int32)) hx hb dX4_isEnd_17 (by decide) ?_
      refine lv_goto (tgt := 22) hx hb dX4_isEnd_18 (by decide) ?_
      cases h_e hM
      exact a_zret C (zn (v := 1) (Or.inr rfl)) hw dX4_isEnd_22
def rm_X4_isSign : Room := { frames := 0, cells := 0, slots := 0, locals := 0 }
set_option maxHeartbeats 4000000 in
set_option maxRecDepth 100000 in
theorem c_X4_isSign (l : Launch) {x1 : Int32} {x2 : Int32} {ι : iS} {res : Int32 × iS} (hM : m_X4_isSign x1 x2 ι = some res) : aM l yX4_isSign cX4_isSign 3 (some .boolean) rm_X4_isSign (fun ad => [.ref (ad 24), .int x1, .int x2]) (aG ι) (some (.int res.1)) (aG res.2) := by
  refine aM.of (by decide) (fun _ => Nat.le_of_ble_eq_true rfl) ?_
  intro p e s m args below meth c D dA ad adV A ls C hw hl
  have C : aX p m c cX4_isSign 3 s args aTs RX4 meth (some .boolean) := C
  have hx := C.1.1
  have hb := C.1.2.1
  have hml := C.1.2.2.1
  have hown := C.1.2.2.2.1
  have hts := C.1.2.2.2.2
  have hl : lv_has ls 3 [(0, .ref (ad 24)), (1, .int x1), (2, .int x2)] := hl
  unfold m_X4_isSign at hM
  refine lv_iload_n hx hb dX4_isSign_0 rfl (lv_at hl 1 rfl) ?_
  refine lv_aload_n hx hb dX4_isSign_1 rfl (lv_at hl 0 rfl) ?_
  refine a_geti (σ := aG ι) (o := 24) (T := TX4) (N := 6) C wU_X4 hw rfl (by decide) rfl 3 (by decide) rfl wF_X4_21 dX4_isSign_2 ?_
  refine lv_icmp_ge (tgt := 32) hx hb dX4_isSign_5 (by decide) (fun hc => ?_) (fun hc => ?_)
  · replace hM := h_t hc hM
    refine lv_iconst (v := (0 : Int32)) hx hb dX4_isSign_32 (by decide) ?_
    cases h_e hM
    exact a_zret C (zn (v := 0) (Or.inl rfl)) hw dX4_isSign_33
  · replace hM := h_f hc hM
    refine lv_aload_n hx hb dX4_isSign_8 rfl (lv_at hl 0 rfl) ?_
    refine a_getp (q := 25) (σ := aG ι) (o := 24) (T := TX4) (N := 6) C wU_X4 hw rfl (by decide) rfl 0 (by decide) rfl wF_X4_9 (aG_P rfl rfl) dX4_isSign_9 ?_
    refine lv_iload_n hx hb dX4_isSign_12 rfl (lv_at hl 1 rfl) ?_
    obtain ⟨hi, hM⟩ := h_i hM
    refine a_iald (σ := aG ι) (o := 25) C hw rfl hi rfl dX4_isSign_13 ?_
    refine lv_iconst (v := (3 : Int32)) hx hb dX4_isSign_14 (by decide) ?_
    refine lv_icmp_ne (tgt := 32) hx hb dX4_isSign_15 (by decide) (fun hc => ?_) (fun hc => ?_)
    · replace hM := h_f hc hM
      refine lv_iconst (v := (0 : Int32)) hx hb dX4_isSign_32 (by decide) ?_
      cases h_e hM
      exact a_zret C (zn (v := 0) (Or.inl rfl)) hw dX4_isSign_33
    · replace hM := h_t hc hM
      refine lv_aload_n hx hb dX4_isSign_18 rfl (lv_at hl 0 rfl) ?_
      refine a_getp (q := 27) (σ := aG ι) (o := 24) (T := TX4) (N := 6) C wU_X4 hw rfl (by decide) rfl 2 (by decide) rfl wF_X4_18 (aG_P rfl rfl) dX4_isSign_19 ?_
      refine lv_iload_n hx hb dX4_isSign_22 rfl (lv_at hl 1 rfl) ?_
      obtain ⟨hi, hM⟩ := h_i hM
      refine a_iald (σ := aG ι) (o := 27) C hw rfl hi rfl dX4_isSign_23 ?_
      refine lv_iload_n hx hb dX4_isSign_24 rfl (lv_at hl 2 rfl) ?_
      refine lv_icmp_ne (tgt := 32) hx hb dX4_isSign_25 (by decide) (fun hc => ?_) (fun hc => ?_)
      · replace hM := h_f hc hM
        refine lv_iconst (v := (0 : Int32)) hx hb dX4_isSign_32 (by decide) ?_
        cases h_e hM
        exact a_zret C (zn (v := 0) (Or.inl rfl)) hw dX4_isSign_33
      · replace hM := h_t hc hM
        refine lv_iconst (v := (1 : Int32)) hx hb dX4_isSign_28 (by decide) ?_
        refine lv_goto (tgt := 33) hx hb dX4_isSign_29 (by decide) ?_
        cases h_e hM
        exact a_zret C (zn (v := 1) (Or.inr rfl)) hw dX4_isSign_33
def rm_X4_isNumber : Room := { frames := 0, cells := 0, slots := 0, locals := 0 }
set_option maxHeartbeats 4000000 in
set_option maxRecDepth 100000 in
theorem c_X4_isNumber (l : Launch) {x1 : Int32} {ι : iS} {res : Int32 × iS} (hM : m_X4_isNumber x1 ι = some res) : aM l yX4_isNumber cX4_isNumber 2 (some .boolean) rm_X4_isNumber (fun ad => [.ref (ad 24), .int x1]) (aG ι) (some (.int res.1)) (aG res.2) := by
  refine aM.of (by decide) (fun _ => Nat.le_of_ble_eq_true rfl) ?_
  intro p e s m args below meth c D dA ad adV A ls C hw hl
  have C : aX p m c cX4_isNumber 2 s args aTs RX4 meth (some .boolean) := C
  have hx := C.1.1
  have hb := C.1.2.1
  have hml := C.1.2.2.1
  have hown := C.1.2.2.2.1
  have hts := C.1.2.2.2.2
  have hl : lv_has ls 2 [(0, .ref (ad 24)), (1, .int x1)] := hl
  unfold m_X4_isNumber at hM
  refine lv_iload_n hx hb dX4_isNumber_0 rfl (lv_at hl 1 rfl) ?_
  refine lv_aload_n hx hb dX4_isNumber_1 rfl (lv_at hl 0 rfl) ?_
  refine a_geti (σ := aG ι) (o := 24) (T := TX4) (N := 6) C wU_X4 hw rfl (by decide) rfl 3 (by decide) rfl wF_X4_21 dX4_isNumber_2 ?_
  refine lv_icmp_ge (tgt := 22) hx hb dX4_isNumber_5 (by decide) (fun hc => ?_) (fun hc => ?_)
  · replace hM := h_t hc hM
    refine lv_iconst (v := (0 : Int32)) hx hb dX4_isNumber_22 (by decide) ?_
    cases h_e hM
    exact a_zret C (zn (v := 0) (Or.inl rfl)) hw dX4_isNumber_23
  · replace hM := h_f hc hM
    refine lv_aload_n hx hb dX4_isNumber_8 rfl (lv_at hl 0 rfl) ?_
    refine a_getp (q := 25) (σ := aG ι) (o := 24) (T := TX4) (N := 6) C wU_X4 hw rfl (by decide) rfl 0 (by decide) rfl wF_X4_9 (aG_P rfl rfl) dX4_isNumber_9 ?_
    refine lv_iload_n hx hb dX4_isNumber_12 rfl (lv_at hl 1 rfl) ?_
    obtain ⟨hi, hM⟩ := h_i hM
    refine a_iald (σ := aG ι) (o := 25) C hw rfl hi rfl dX4_isNumber_13 ?_
    refine lv_iconst (v := (2 : Int32)) hx hb dX4_isNumber_14 (by decide) ?_
    refine lv_icmp_ne (tgt := 22) hx hb dX4_isNumber_15 (by decide) (fun hc => ?_) (fun hc => ?_)
    · replace hM := h_f hc hM
      refine lv_iconst (v := (0 : Int32)) hx hb dX4_isNumber_22 (by decide) ?_
      cases h_e hM
      exact a_zret C (zn (v := 0) (Or.inl rfl)) hw dX4_isNumber_23
    · replace hM := h_t hc hM
      refine lv_iconst (v := (1 : Int32)) hx hb dX4_isNumber_18 (by decide) ?_
      refine lv_goto (tgt := 23) hx hb dX4_isNumber_19 (by decide) ?_
      cases h_e hM
      exact a_zret C (zn (v := 1) (Or.inr rfl)) hw dX4_isNumber_23
def rm_X4_placeAt : Room := { frames := 0, cells := 0, slots := 0, locals := 0 }
set_option maxHeartbeats 4000000 in
set_option maxRecDepth 100000 in
theorem c_X4_placeAt (l : Launch) {x1 : Int32} {ι : iS} {res : Int32 × iS} (hM : m_X4_placeAt x1 ι = some res) : aM l yX4_placeAt cX4_placeAt 2 (some .int) rm_X4_placeAt (fun ad => [.ref (ad 24), .int x1]) (aG ι) (some (.int res.1)) (aG res.2) := by
  refine aM.of (by decide) (fun _ => Nat.le_of_ble_eq_true rfl) ?_
  intro p e s m args below meth c D dA ad adV A ls C hw hl
  have C : aX p m c cX4_placeAt 2 s args aTs RX4 meth (some .int) := C
  have hx := C.1.1
  have hb := C.1.2.1
  have hml := C.1.2.2.1
  have hown := C.1.2.2.2.1
  have hts := C.1.2.2.2.2
  have hl : lv_has ls 2 [(0, .ref (ad 24)), (1, .int x1)] := hl
  unfold m_X4_placeAt at hM
  refine lv_iload_n hx hb dX4_placeAt_0 rfl (lv_at hl 1 rfl) ?_
  refine lv_aload_n hx hb dX4_placeAt_1 rfl (lv_at hl 0 rfl) ?_
  refine a_geti (σ := aG ι) (o := 24) (T := TX4) (N := 6) C wU_X4 hw rfl (by decide) rfl 3 (by decide) rfl wF_X4_21 dX4_placeAt_2 ?_
  refine lv_icmp_ge (tgt := 17) hx hb dX4_placeAt_5 (by decide) (fun hc => ?_) (fun hc => ?_)
  · replace hM := h_t hc hM
    refine lv_aload_n hx hb dX4_placeAt_17 rfl (lv_at hl 0 rfl) ?_
    refine a_geti (σ := aG ι) (o := 24) (T := TX4) (N := 6) C wU_X4 hw rfl (by decide) rfl 5 (by decide) rfl wF_X4_29 dX4_placeAt_18 ?_
    cases h_e hM
    exact a_iret C hw dX4_placeAt_21
  · replace hM := h_f hc hM
    refine lv_aload_n hx hb dX4_placeAt_8 rfl (lv_at hl 0 rfl) ?_
    refine a_getp (q := 26) (σ := aG ι) (o := 24) (T := TX4) (N := 6) C wU_X4 hw rfl (by decide) rfl 1 (by decide) rfl wF_X4_15 (aG_P rfl rfl) dX4_placeAt_9 ?_
    refine lv_iload_n hx hb dX4_placeAt_12 rfl (lv_at hl 1 rfl) ?_
    obtain ⟨hi, hM⟩ := h_i hM
    refine a_iald (σ := aG ι) (o := 26) C hw rfl hi rfl dX4_placeAt_13 ?_
    refine lv_goto (tgt := 21) hx hb dX4_placeAt_14 (by decide) ?_
    cases h_e hM
    exact a_iret C hw dX4_placeAt_21
def rm_X4_contentAt : Room := { frames := 0, cells := 0, slots := 0, locals := 0 }
set_option maxHeartbeats 4000000 in
set_option maxRecDepth 100000 in
theorem c_X4_contentAt (l : Launch) {x1 : Int32} {ι : iS} {res : Int32 × iS} (hM : m_X4_contentAt x1 ι = some res) : aM l yX4_contentAt cX4_contentAt 2 (some .int) rm_X4_contentAt (fun ad => [.ref (ad 24), .int x1]) (aG ι) (some (.int res.1)) (aG res.2) := by
  refine aM.of (by decide) (fun _ => Nat.le_of_ble_eq_true rfl) ?_
  intro p e s m args below meth c D dA ad adV A ls C hw hl
  have C : aX p m c cX4_contentAt 2 s args aTs RX4 meth (some .int) := C
  have hx := C.1.1
  have hb := C.1.2.1
  have hml := C.1.2.2.1
  have hown := C.1.2.2.2.1
  have hts := C.1.2.2.2.2
  have hl : lv_has ls 2 [(0, .ref (ad 24)), (1, .int x1)] := hl
  unfold m_X4_contentAt at hM
  refine lv_iload_n hx hb dX4_contentAt_0 rfl (lv_at hl 1 rfl) ?_
  refine lv_aload_n hx hb dX4_contentAt_1 rfl (lv_at hl 0 rfl) ?_
  refine a_geti (σ := aG ι) (o := 24) (T := TX4) (N := 6) C wU_X4 hw rfl (by decide) rfl 3 (by decide) rfl wF_X4_21 dX4_contentAt_2 ?_
  refine lv_icmp_ge (tgt := 17) hx hb dX4_contentAt_5 (by decide) (fun hc => ?_) (fun hc => ?_)
  · replace hM := h_t hc hM
    refine lv_iconst (v := (0 : Int32)) hx hb dX4_contentAt_17 (by decide) ?_
    cases h_e hM
    exact a_iret C hw dX4_contentAt_18
  · replace hM := h_f hc hM
    refine lv_aload_n hx hb dX4_contentAt_8 rfl (lv_at hl 0 rfl) ?_
    refine a_getp (q := 27) (σ := aG ι) (o := 24) (T := TX4) (N := 6) C wU_X4 hw rfl (by decide) rfl 2 (by decide) rfl wF_X4_18 (aG_P rfl rfl) dX4_contentAt_9 ?_
    refine lv_iload_n hx hb dX4_contentAt_12 rfl (lv_at hl 1 rfl) ?_
    obtain ⟨hi, hM⟩ := h_i hM
    refine a_iald (σ := aG ι) (o := 27) C hw rfl hi rfl dX4_contentAt_13 ?_
    refine lv_goto (tgt := 18) hx hb dX4_contentAt_14 (by decide) ?_
    cases h_e hM
    exact a_iret C hw dX4_contentAt_18
def rm_X3_fail : Room := { frames := 0, cells := 0, slots := 0, locals := 0 }
set_option maxHeartbeats 4000000 in
set_option maxRecDepth 100000 in
theorem c_X3_fail (l : Launch) {x1 : Int32} {ι : iS} {res : Int32 × iS} (hM : m_X3_fail x1 ι = some res) : aM l yX3_fail cX3_fail 2 (some .boolean) rm_X3_fail (fun ad => [.ref (ad 11), .int x1]) (aG ι) (some (.int res.1)) (aG res.2) := by
  refine aM.of (by decide) (fun _ => Nat.le_of_ble_eq_true rfl) ?_
  intro p e s m args below meth c D dA ad adV A ls C hw hl
  have C : aX p m c cX3_fail 2 s args aTs RX3 meth (some .boolean) := C
  have hx := C.1.1
  have hb := C.1.2.1
  have hml := C.1.2.2.1
  have hown := C.1.2.2.2.1
  have hts := C.1.2.2.2.2
  have hl : lv_has ls 2 [(0, .ref (ad 11)), (1, .int x1)] := hl
  unfold m_X3_fail at hM
  refine lv_aload_n hx hb dX3_fail_0 rfl (lv_at hl 0 rfl) ?_
  refine lv_iload_n hx hb dX3_fail_1 rfl (lv_at hl 1 rfl) ?_
  refine a_puti (ty := .int) (σ := aG ι) (o := 11) (T := TX3) (N := 7) (ty0 := tyX3) C wU_X3 tyX3_ok nmX3 hw rfl (by decide) rfl 4 (by decide) rfl wF_X3_36 rfl (by decide +kernel) rfl rfl dX3_fail_2 (fun H locs hw => ?_)
  have hw : aW D dA ad adV (aG (pI ι 11 4 x1)) A s H locs := by rw [aG_PI] at hw; exact hw
  refine lv_iconst (v := (0 : Int32)) hx hb dX3_fail_5 (by decide) ?_
  cases h_e hM
  exact a_zret C (zn (v := 0) (Or.inl rfl)) hw dX3_fail_6
def rm_X3_readSign : Room := { frames := 1, cells := 0, slots := 0, locals := 22 }
set_option maxHeartbeats 4000000 in
set_option maxRecDepth 100000 in
theorem c_X3_readSign (l : Launch) {x1 : Int32} {ι : iS} {res : Int32 × iS} (hM : m_X3_readSign x1 ι = some res) : aM l yX3_readSign cX3_readSign 2 (some .boolean) rm_X3_readSign (fun ad => [.ref (ad 11), .int x1]) (aG ι) (some (.int res.1)) (aG res.2) := by
  refine aM.of (by decide) (fun _ => Nat.le_of_ble_eq_true rfl) ?_
  intro p e s m args below meth c D dA ad adV A ls C hw hl
  have C : aX p m c cX3_readSign 2 s args aTs RX3 meth (some .boolean) := C
  have hx := C.1.1
  have hb := C.1.2.1
  have hml := C.1.2.2.1
  have hown := C.1.2.2.2.1
  have hts := C.1.2.2.2.2
  have hl : lv_has ls 2 [(0, .ref (ad 11)), (1, .int x1)] := hl
  unfold m_X3_readSign at hM
  refine lv_aload_n hx hb dX3_readSign_0 rfl (lv_at hl 0 rfl) ?_
  refine a_getp (q := 24) (σ := aG ι) (o := 11) (T := TX3) (N := 7) C wU_X3 hw rfl (by decide) rfl 3 (by decide) rfl wF_X3_32 (aG_P rfl rfl) dX3_readSign_1 ?_
  refine lv_aload_n hx hb dX3_readSign_4 rfl (lv_at hl 0 rfl) ?_
  refine a_geti (σ := aG ι) (o := 11) (T := TX3) (N := 7) C wU_X3 hw rfl (by decide) rfl 5 (by decide) rfl wF_X3_39 dX3_readSign_5 ?_
  refine lv_iload_n hx hb dX3_readSign_8 rfl (lv_at hl 1 rfl) ?_
  obtain ⟨r9, hr9, hM⟩ := h_b hM
  refine a_callV (σ' := aG r9.2) (v := (some (.int r9.1))) (As := fun ad => [.int (gI ι 11 5), .int x1]) (rest := []) (o := 24) C hw (c_X4_isSign l hr9) k_X4_isSign wM_X3_155 ⟨⟨rfl, rfl⟩, ⟨Nat.le_of_ble_eq_true rfl, Nat.le_of_ble_eq_true rfl⟩⟩ rfl (by decide) rfl rfl rfl hl rfl (Nat.le_of_ble_eq_true rfl) dX3_readSign_9 ⟨Nat.zero_le _, Nat.zero_le _⟩ (fun H locs hw => ?_)
  refine lv_if_ne (tgt := 21) hx hb dX3_readSign_12 (by decide) (fun hc => ?_) (fun hc => ?_)
  · replace hM := h_f hc hM
    refine lv_aload_n hx hb dX3_readSign_21 rfl (lv_at hl 0 rfl) ?_
    refine lv_dup hx hb dX3_readSign_22 rfl ?_
    refine a_geti (σ := aG r9.2) (o := 11) (T := TX3) (N := 7) C wU_X3 hw rfl (by decide) rfl 5 (by decide) rfl wF_X3_39 dX3_readSign_23 ?_
    refine lv_iconst (v := (1 : Int32)) hx hb dX3_readSign_26 (by decide) ?_
    refine lv_iadd hx hb dX3_readSign_27 ?_
    refine a_puti (ty := .int) (σ := aG r9.2) (o := 11) (T := TX3) (N := 7) (ty0 := tyX3) C wU_X3 tyX3_ok nmX3 hw rfl (by decide) rfl 5 (by decide) rfl wF_X3_39 rfl (by decide +kernel) rfl rfl dX3_readSign_28 (fun H locs hw => ?_)
    have hw : aW D dA ad adV (aG (pI r9.2 11 5 ((gI r9.2 11 5) + (1 : Int32)))) A s H locs := by rw [aG_PI] at hw; exact hw
    refine lv_iconst (v := (1 : Int32)) hx hb dX3_readSign_31 (by decide) ?_
    cases h_e hM
    exact a_zret C (zn (v := 1) (Or.inr rfl)) hw dX3_readSign_32
  · replace hM := h_t hc hM
    refine lv_aload_n hx hb dX3_readSign_15 rfl (lv_at hl 0 rfl) ?_
    refine lv_iconst (v := (1 : Int32)) hx hb dX3_readSign_16 (by decide) ?_
    obtain ⟨r17, hr17, hM⟩ := h_b hM
    refine a_callV (σ' := aG r17.2) (v := (some (.int r17.1))) (As := fun ad => [.int (1 : Int32)]) (rest := []) (o := 11) C hw (c_X3_fail l hr17) k_X3_fail wM_X3_68 ⟨⟨rfl, rfl⟩, ⟨Nat.le_of_ble_eq_true rfl, Nat.le_of_ble_eq_true rfl⟩⟩ rfl (by decide) rfl rfl rfl hl rfl (Nat.le_of_ble_eq_true rfl) dX3_readSign_17 ⟨Nat.zero_le _, Nat.zero_le _⟩ (fun H locs hw => ?_)
    obtain ⟨hz, hM⟩ := h_g hM
    cases h_e hM
    exact a_zret C (zn hz) hw dX3_readSign_20
def rm_X3_readNumber : Room := { frames := 1, cells := 0, slots := 0, locals := 21 }
set_option maxHeartbeats 4000000 in
set_option maxRecDepth 100000 in
theorem c_X3_readNumber (l : Launch) {x1 : Int32} {x2 : Int32} {ι : iS} {res : Int32 × iS} (hM : m_X3_readNumber x1 x2 ι = some res) : aM l yX3_readNumber cX3_readNumber 4 (some .int) rm_X3_readNumber (fun ad => [.ref (ad 11), .int x1, .int x2]) (aG ι) (some (.int res.1)) (aG res.2) := by
  refine aM.of (by decide) (fun _ => Nat.le_of_ble_eq_true rfl) ?_
  intro p e s m args below meth c D dA ad adV A ls C hw hl
  have C : aX p m c cX3_readNumber 4 s args aTs RX3 meth (some .int) := C
  have hx := C.1.1
  have hb := C.1.2.1
  have hml := C.1.2.2.1
  have hown := C.1.2.2.2.1
  have hts := C.1.2.2.2.2
  have hl : lv_has ls 4 [(0, .ref (ad 11)), (1, .int x1), (2, .int x2)] := hl
  unfold m_X3_readNumber at hM
  refine lv_aload_n hx hb dX3_readNumber_0 rfl (lv_at hl 0 rfl) ?_
  refine a_getp (q := 24) (σ := aG ι) (o := 11) (T := TX3) (N := 7) C wU_X3 hw rfl (by decide) rfl 3 (by decide) rfl wF_X3_32 (aG_P rfl rfl) dX3_readNumber_1 ?_
  refine lv_aload_n hx hb dX3_readNumber_4 rfl (lv_at hl 0 rfl) ?_
  refine a_geti (σ := aG ι) (o := 11) (T := TX3) (N := 7) C wU_X3 hw rfl (by decide) rfl 5 (by decide) rfl wF_X3_39 dX3_readNumber_5 ?_
  obtain ⟨r8, hr8, hM⟩ := h_b hM
  refine a_callV (σ' := aG r8.2) (v := (some (.int r8.1))) (As := fun ad => [.int (gI ι 11 5)]) (rest := []) (o := 24) C hw (c_X4_isNumber l hr8) k_X4_isNumber wM_X3_159 ⟨⟨rfl, rfl⟩, ⟨Nat.le_of_ble_eq_true rfl, Nat.le_of_ble_eq_true rfl⟩⟩ rfl (by decide) rfl rfl rfl hl rfl (Nat.le_of_ble_eq_true rfl) dX3_readNumber_8 ⟨Nat.zero_le _, Nat.zero_le _⟩ (fun H locs hw => ?_)
  refine lv_if_ne (tgt := 22) hx hb dX3_readNumber_11 (by decide) (fun hc => ?_) (fun hc => ?_)
  · replace hM := h_f hc hM
    refine lv_aload_n hx hb dX3_readNumber_22 rfl (lv_at hl 0 rfl) ?_
    refine a_getp (q := 24) (σ := aG r8.2) (o := 11) (T := TX3) (N := 7) C wU_X3 hw rfl (by decide) rfl 3 (by decide) rfl wF_X3_32 (aG_P rfl rfl) dX3_readNumber_23 ?_
    refine lv_aload_n hx hb dX3_readNumber_26 rfl (lv_at hl 0 rfl) ?_
    refine a_geti (σ := aG r8.2) (o := 11) (T := TX3) (N := 7) C wU_X3 hw rfl (by decide) rfl 5 (by decide) rfl wF_X3_39 dX3_readNumber_27 ?_
    obtain ⟨r30, hr30, hM⟩ := h_b hM
    refine a_callV (σ' := aG r30.2) (v := (some (.int r30.1))) (As := fun ad => [.int (gI r8.2 11 5)]) (rest := []) (o := 24) C hw (c_X4_contentAt l hr30) k_X4_contentAt wM_X3_162 ⟨⟨rfl, rfl⟩, ⟨Nat.le_of_ble_eq_true rfl, Nat.le_of_ble_eq_true rfl⟩⟩ rfl (by decide) rfl rfl rfl hl rfl (Nat.le_of_ble_eq_true rfl) dX3_readNumber_30 ⟨Nat.zero_le _, Nat.zero_le _⟩ (fun H locs hw => ?_)
    refine lv_istore_n (lv' := [(3, .int r30.1), (0, .ref (ad 11)), (1, .int x1), (2, .int x2)]) hx hb dX3_readNumber_33 rfl hl (by decide) rfl (fun ls hl => ?_)
    refine lv_iload_n hx hb dX3_readNumber_34 rfl (lv_at hl 0 rfl) ?_
    refine lv_iload_n hx hb dX3_readNumber_35 rfl (lv_at hl 2 rfl) ?_
    refine lv_icmp_lt (tgt := 44) hx hb dX3_readNumber_36 (by decide) (fun hc => ?_) (fun hc => ?_)
    · replace hM := h_t hc hM
      refine lv_aload_n hx hb dX3_readNumber_44 rfl (lv_at hl 1 rfl) ?_
      refine lv_iconst (v := (2 : Int32)) hx hb dX3_readNumber_45 (by decide) ?_
      obtain ⟨r46, hr46, hM⟩ := h_b hM
      refine a_callV (σ' := aG r46.2) (v := (some (.int r46.1))) (As := fun ad => [.int (2 : Int32)]) (rest := []) (o := 11) C hw (c_X3_fail l hr46) k_X3_fail wM_X3_68 ⟨⟨rfl, rfl⟩, ⟨Nat.le_of_ble_eq_true rfl, Nat.le_of_ble_eq_true rfl⟩⟩ rfl (by decide) rfl rfl rfl hl rfl (Nat.le_of_ble_eq_true rfl) dX3_readNumber_46 ⟨Nat.zero_le _, Nat.zero_le _⟩ (fun H locs hw => ?_)
      refine lv_pop hx hb dX3_readNumber_49 rfl ?_
      refine lv_iconst (v := (-1 : Int32)) hx hb dX3_readNumber_50 (by decide) ?_
      cases h_e hM
      exact a_iret C hw dX3_readNumber_51
    · replace hM := h_f hc hM
      refine lv_iload_n hx hb dX3_readNumber_39 rfl (lv_at hl 0 rfl) ?_
      refine lv_iload_n hx hb dX3_readNumber_40 rfl (lv_at hl 3 rfl) ?_
      refine lv_icmp_le (tgt := 52) hx hb dX3_readNumber_41 (by decide) (fun hc => ?_) (fun hc => ?_)
      · replace hM := h_t hc hM
        refine lv_aload_n hx hb dX3_readNumber_52 rfl (lv_at hl 1 rfl) ?_
        refine lv_dup hx hb dX3_readNumber_53 rfl ?_
        refine a_geti (σ := aG r30.2) (o := 11) (T := TX3) (N := 7) C wU_X3 hw rfl (by decide) rfl 5 (by decide) rfl wF_X3_39 dX3_readNumber_54 ?_
        refine lv_iconst (v := (1 : Int32)) hx hb dX3_readNumber_57 (by decide) ?_
        refine lv_iadd hx hb dX3_readNumber_58 ?_
        refine a_puti (ty := .int) (σ := aG r30.2) (o := 11) (T := TX3) (N := 7) (ty0 := tyX3) C wU_X3 tyX3_ok nmX3 hw rfl (by decide) rfl 5 (by decide) rfl wF_X3_39 rfl (by decide +kernel) rfl rfl dX3_readNumber_59 (fun H locs hw => ?_)
        have hw : aW D dA ad adV (aG (pI r30.2 11 5 ((gI r30.2 11 5) + (1 : Int32)))) A s H locs := by rw [aG_PI] at hw; exact hw
        refine lv_iload_n hx hb dX3_readNumber_62 rfl (lv_at hl 0 rfl) ?_
        cases h_e hM
        exact a_iret C hw dX3_readNumber_63
      · replace hM := h_f hc hM
        refine lv_aload_n hx hb dX3_readNumber_44 rfl (lv_at hl 1 rfl) ?_
        refine lv_iconst (v := (2 : Int32)) hx hb dX3_readNumber_45 (by decide) ?_
        obtain ⟨r46, hr46, hM⟩ := h_b hM
        refine a_callV (σ' := aG r46.2) (v := (some (.int r46.1))) (As := fun ad => [.int (2 : Int32)]) (rest := []) (o := 11) C hw (c_X3_fail l hr46) k_X3_fail wM_X3_68 ⟨⟨rfl, rfl⟩, ⟨Nat.le_of_ble_eq_true rfl, Nat.le_of_ble_eq_true rfl⟩⟩ rfl (by decide) rfl rfl rfl hl rfl (Nat.le_of_ble_eq_true rfl) dX3_readNumber_46 ⟨Nat.zero_le _, Nat.zero_le _⟩ (fun H locs hw => ?_)
        refine lv_pop hx hb dX3_readNumber_49 rfl ?_
        refine lv_iconst (v := (-1 : Int32)) hx hb dX3_readNumber_50 (by decide) ?_
        cases h_e hM
        exact a_iret C hw dX3_readNumber_51
  · replace hM := h_t hc hM
    refine lv_aload_n hx hb dX3_readNumber_14 rfl (lv_at hl 0 rfl) ?_
    refine lv_iconst (v := (1 : Int32)) hx hb dX3_readNumber_15 (by decide) ?_
    obtain ⟨r16, hr16, hM⟩ := h_b hM
    refine a_callV (σ' := aG r16.2) (v := (some (.int r16.1))) (As := fun ad => [.int (1 : Int32)]) (rest := []) (o := 11) C hw (c_X3_fail l hr16) k_X3_fail wM_X3_68 ⟨⟨rfl, rfl⟩, ⟨Nat.le_of_ble_eq_true rfl, Nat.le_of_ble_eq_true rfl⟩⟩ rfl (by decide) rfl rfl rfl hl rfl (Nat.le_of_ble_eq_true rfl) dX3_readNumber_16 ⟨Nat.zero_le _, Nat.zero_le _⟩ (fun H locs hw => ?_)
    refine lv_pop hx hb dX3_readNumber_19 rfl ?_
    refine lv_iconst (v := (-1 : Int32)) hx hb dX3_readNumber_20 (by decide) ?_
    cases h_e hM
    exact a_iret C hw dX3_readNumber_21
def rm_X3_readOnce : Room := { frames := 1, cells := 0, slots := 0, locals := 21 }
set_option maxHeartbeats 4000000 in
set_option maxRecDepth 100000 in
theorem c_X3_readOnce (l : Launch) {x1 : Int32} {ι : iS} {res : Int32 × iS} (hM : m_X3_readOnce x1 ι = some res) : aM l yX3_readOnce cX3_readOnce 2 (some .boolean) rm_X3_readOnce (fun ad => [.ref (ad 11), .int x1]) (aG ι) (some (.int res.1)) (aG res.2) := by
  refine aM.of (by decide) (fun _ => Nat.le_of_ble_eq_true rfl) ?_
  intro p e s m args below meth c D dA ad adV A ls C hw hl
  have C : aX p m c cX3_readOnce 2 s args aTs RX3 meth (some .boolean) := C
  have hx := C.1.1
  have hb := C.1.2.1
  have hml := C.1.2.2.1
  have hown := C.1.2.2.2.1
  have hts := C.1.2.2.2.2
  have hl : lv_has ls 2 [(0, .ref (ad 11)), (1, .int x1)] := hl
  unfold m_X3_readOnce at hM
  refine lv_aload_n hx hb dX3_readOnce_0 rfl (lv_at hl 0 rfl) ?_
  refine a_geti (σ := aG ι) (o := 11) (T := TX3) (N := 7) C wU_X3 hw rfl (by decide) rfl 6 (by decide) rfl wF_X3_42 dX3_readOnce_1 ?_
  refine lv_iload_n hx hb dX3_readOnce_4 rfl (lv_at hl 1 rfl) ?_
  refine lv_iand hx hb dX3_readOnce_5 ?_
  refine lv_if_eq (tgt := 15) hx hb dX3_readOnce_6 (by decide) (fun hc => ?_) (fun hc => ?_)
  · replace hM := h_t hc hM
    refine lv_aload_n hx hb dX3_readOnce_15 rfl (lv_at hl 0 rfl) ?_
    refine lv_dup hx hb dX3_readOnce_16 rfl ?_
    refine a_geti (σ := aG ι) (o := 11) (T := TX3) (N := 7) C wU_X3 hw rfl (by decide) rfl 6 (by decide) rfl wF_X3_42 dX3_readOnce_17 ?_
    refine lv_iload_n hx hb dX3_readOnce_20 rfl (lv_at hl 1 rfl) ?_
    refine lv_ior hx hb dX3_readOnce_21 ?_
    refine a_puti (ty := .int) (σ := aG ι) (o := 11) (T := TX3) (N := 7) (ty0 := tyX3) C wU_X3 tyX3_ok nmX3 hw rfl (by decide) rfl 6 (by decide) rfl wF_X3_42 rfl (by decide +kernel) rfl rfl dX3_readOnce_22 (fun H locs hw => ?_)
    have hw : aW D dA ad adV (aG (pI ι 11 6 ((gI ι 11 6) ||| x1))) A s H locs := by rw [aG_PI] at hw; exact hw
    refine lv_aload_n hx hb dX3_readOnce_25 rfl (lv_at hl 0 rfl) ?_
    refine lv_dup hx hb dX3_readOnce_26 rfl ?_
    refine a_geti (σ := aG (pI ι 11 6 ((gI ι 11 6) ||| x1))) (o := 11) (T := TX3) (N := 7) C wU_X3 hw rfl (by decide) rfl 5 (by decide) rfl wF_X3_39 dX3_readOnce_27 ?_
    refine lv_iconst (v := (1 : Int32)) hx hb dX3_readOnce_30 (by decide) ?_
    refine lv_iadd hx hb dX3_readOnce_31 ?_
    refine a_puti (ty := .int) (σ := aG (pI ι 11 6 ((gI ι 11 6) ||| x1))) (o := 11) (T := TX3) (N := 7) (ty0 := tyX3) C wU_X3 tyX3_ok nmX3 hw rfl (by decide) rfl 5 (by decide) rfl wF_X3_39 rfl (by decide +kernel) rfl rfl dX3_readOnce_32 (fun H locs hw => ?_)
    have hw : aW D dA ad adV (aG (pI (pI ι 11 6 ((gI ι 11 6) ||| x1)) 11 5 ((gI (pI ι 11 6 ((gI ι 11 6) ||| x1)) 11 5) + (1 : Int32)))) A s H locs := by rw [aG_PI] at hw; exact hw
    refine lv_iconst (v := (1 : Int32)) hx hb dX3_readOnce_35 (by decide) ?_
    cases h_e hM
    exact a_zret C (zn (v := 1) (Or.inr rfl)) hw dX3_readOnce_36
  · replace hM := h_f hc hM
    refine lv_aload_n hx hb dX3_readOnce_9 rfl (lv_at hl 0 rfl) ?_
    refine lv_iconst (v := (1 : Int32)) hx hb dX3_readOnce_10 (by decide) ?_
    obtain ⟨r11, hr11, hM⟩ := h_b hM
    refine a_callV (σ' := aG r11.2) (v := (some (.int r11.1))) (As := fun ad => [.int (1 : Int32)]) (rest := []) (o := 11) C hw (c_X3_fail l hr11) k_X3_fail wM_X3_68 ⟨⟨rfl, rfl⟩, ⟨Nat.le_of_ble_eq_true rfl, Nat.le_of_ble_eq_true rfl⟩⟩ rfl (by decide) rfl rfl rfl hl rfl (Nat.le_of_ble_eq_true rfl) dX3_readOnce_11 ⟨Nat.zero_le _, Nat.zero_le _⟩ (fun H locs hw => ?_)
    obtain ⟨hz, hM⟩ := h_g hM
    cases h_e hM
    exact a_zret C (zn hz) hw dX3_readOnce_14
def rm_X3_readSetting : Room := { frames := 2, cells := 0, slots := 0, locals := 44 }
set_option maxHeartbeats 4000000 in
set_option maxRecDepth 100000 in
theorem c_X3_readSetting (l : Launch) {x1 : Int32} {ι : iS} {res : Int32 × iS} (hM : m_X3_readSetting x1 ι = some res) : aM l yX3_readSetting cX3_readSetting 3 (some .boolean) rm_X3_readSetting (fun ad => [.ref (ad 11), .int x1]) (aG ι) (some (.int res.1)) (aG res.2) := by
  refine aM.of (by decide) (fun _ => Nat.le_of_ble_eq_true rfl) ?_
  intro p e s m args below meth c D dA ad adV A ls C hw hl
  have C : aX p m c cX3_readSetting 3 s args aTs RX3 meth (some .boolean) := C
  have hx := C.1.1
  have hb := C.1.2.1
  have hml := C.1.2.2.1
  have hown := C.1.2.2.2.1
  have hts := C.1.2.2.2.2
  have hl : lv_has ls 3 [(0, .ref (ad 11)), (1, .int x1)] := hl
  unfold m_X3_readSetting at hM
  refine lv_aload_n hx hb dX3_readSetting_0 rfl (lv_at hl 0 rfl) ?_
  refine a_getsN (j := 0) C hw (by decide) (by decide) dX3_readSetting_1 ?_
  refine lv_iload_n hx hb dX3_readSetting_4 rfl (lv_at hl 1 rfl) ?_
  obtain ⟨hi, hM⟩ := h_i hM
  refine a_ti (j := 0) C hw (by decide) hi rfl dX3_readSetting_5 ?_
  refine a_getsN (j := 1) C hw (by decide) (by decide) dX3_readSetting_6 ?_
  refine lv_iload_n hx hb dX3_readSetting_9 rfl (lv_at hl 1 rfl) ?_
  obtain ⟨hi, hM⟩ := h_i hM
  refine a_ti (j := 1) C hw (by decide) hi rfl dX3_readSetting_10 ?_
  obtain ⟨r11, hr11, hM⟩ := h_b hM
  refine a_callV (σ' := aG r11.2) (v := (some (.int r11.1))) (As := fun ad => [.int (aSt 0 x1.toNatClampNeg), .int (aSt 1 x1.toNatClampNeg)]) (rest := []) (o := 11) C hw (c_X3_readNumber l hr11) k_X3_readNumber wM_X3_88 ⟨⟨rfl, rfl⟩, ⟨Nat.le_of_ble_eq_true rfl, Nat.le_of_ble_eq_true rfl⟩⟩ rfl (by decide) rfl rfl rfl hl rfl (Nat.le_of_ble_eq_true rfl) dX3_readSetting_11 ⟨Nat.zero_le _, Nat.zero_le _⟩ (fun H locs hw => ?_)
  refine lv_istore_n (lv' := [(2, .int r11.1), (0, .ref (ad 11)), (1, .int x1)]) hx hb dX3_readSetting_14 rfl hl (by decide) rfl (fun ls hl => ?_)
  refine lv_iload_n hx hb dX3_readSetting_15 rfl (lv_at hl 0 rfl) ?_
  refine lv_iconst (v := (-1 : Int32)) hx hb dX3_readSetting_16 (by decide) ?_
  refine lv_icmp_ne (tgt := 22) hx hb dX3_readSetting_17 (by decide) (fun hc => ?_) (fun hc => ?_)
  · replace hM := h_f hc hM
    refine lv_aload_n hx hb dX3_readSetting_22 rfl (lv_at hl 1 rfl) ?_
    refine a_getp (q := 12) (σ := aG r11.2) (o := 11) (T := TX3) (N := 7) C wU_X3 hw rfl (by decide) rfl 0 (by decide) rfl wF_X3_12 (aG_P rfl rfl) dX3_readSetting_23 ?_
    refine a_getp (q := 16) (σ := aG r11.2) (o := 12) (T := TX2) (N := 11) C wU_X2 hw (aLin_k lin12).1 (by decide) rfl 6 (by decide) rfl wF_X3_139 (aLin_p lin12 r11.2 3 (by decide)) dX3_readSetting_26 ?_
    refine lv_iload_n hx hb dX3_readSetting_29 rfl (lv_at hl 2 rfl) ?_
    refine lv_iload_n hx hb dX3_readSetting_30 rfl (lv_at hl 0 rfl) ?_
    obtain ⟨hi, hM⟩ := h_i hM
    refine a_iast (σ := aG r11.2) (o := 16) C hw rfl hi rfl dX3_readSetting_31 (fun H locs hw => ?_)
    have hw : aW D dA ad adV (aG (pI r11.2 16 x1.toNatClampNeg r11.1)) A s H locs := by rw [aG_PI] at hw; exact hw
    refine lv_iconst (v := (1 : Int32)) hx hb dX3_readSetting_32 (by decide) ?_
    cases h_e hM
    exact a_zret C (zn (v := 1) (Or.inr rfl)) hw dX3_readSetting_33
  · replace hM := h_t hc hM
    refine lv_iconst (v := (0 : Int32)) hx hb dX3_readSetting_20 (by decide) ?_
    cases h_e hM
    exact a_zret C (zn (v := 0) (Or.inl rfl)) hw dX3_readSetting_21
def rm_X3_readValues : Room := { frames := 2, cells := 0, slots := 0, locals := 44 }
set_option maxHeartbeats 4000000 in
set_option maxRecDepth 100000 in
theorem tl_X3_readValues_2 (l : Launch) {p : Program} {e : Env} {s : State} {m : MethodId} {args : Array Value} {below : List Frame} {meth : Method} {c : Code} {D : va_G} {dA : Nat → ClassId} {ad adV : Nat → Nat} {A : Nat → Prop} (C : aX p m c cX3_readValues 4 s args aTs RX3 meth (some .boolean)) {res : Int32 × iS} : ∀ (n : Nat) (y1 : Int32) (y2 : Int32) {ι : iS}, l_X3_readValues_2 n y1 y2 ι = some res → ∀ {H : Heap} {locs : List Loc} {ls : Array Slot}, aW D dA ad adV (aG ι) A s H locs → lv_has ls 4 [(0, .ref (ad 11)), (1, .int y1), (2, .int y2)] → W p l e rm_X3_readValues s m args below meth c H locs 0 0 (MQ below (aQ D dA ad (aG res.2) A (some (.int res.1))) args s 0 0 A) (F0 m 2 ls []) := by
  have hx := C.1.1
  have hb := C.1.2.1
  have hml := C.1.2.2.1
  have hown := C.1.2.2.2.1
  have hts := C.1.2.2.2.2
  intro n
  induction n with
  | zero => intro y1 y2 ι hM; simp [l_X3_readValues_2] at hM
  | succ n ih =>
    intro y1 y2 ι hM H locs ls hw hl
    rw [l_X3_readValues_2] at hM
    refine lv_iload_n hx hb dX3_readValues_2 rfl (lv_at hl 2 rfl) ?_
    refine lv_aload_n hx hb dX3_readValues_3 rfl (lv_at hl 0 rfl) ?_
    refine a_getp (q := 12) (σ := aG ι) (o := 11) (T := TX3) (N := 7) C wU_X3 hw rfl (by decide) rfl 0 (by decide) rfl wF_X3_12 (aG_P rfl rfl) dX3_readValues_4 ?_
    refine a_geti (σ := aG ι) (o := 12) (T := TX2) (N := 11) C wU_X2 hw (aLin_k lin12).1 (by decide) rfl 0 (by decide) rfl wF_X3_92 dX3_readValues_7 ?_
    refine lv_icmp_ge (tgt := 44) hx hb dX3_readValues_10 (by decide) (fun hc => ?_) (fun hc => ?_)
    · replace hM := h_t hc hM
      refine lv_iconst (v := (1 : Int32)) hx hb dX3_readValues_44 (by decide) ?_
      cases h_e hM
      exact a_zret C (zn (v := 1) (Or.inr rfl)) hw dX3_readValues_45
    · replace hM := h_f hc hM
      refine lv_aload_n hx hb dX3_readValues_13 rfl (lv_at hl 0 rfl) ?_
      refine lv_iconst (v := (0 : Int32)) hx hb dX3_readValues_14 (by decide) ?_
      refine lv_bipush (v := (9 : Int32)) hx hb dX3_readValues_15 (by decide) ?_
      obtain ⟨r17, hr17, hM⟩ := h_b hM
      refine a_callV (σ' := aG r17.2) (v := (some (.int r17.1))) (As := fun ad => [.int (0 : Int32), .int (9 : Int32)]) (rest := []) (o := 11) C hw (c_X3_readNumber l hr17) k_X3_readNumber wM_X3_88 ⟨⟨rfl, rfl⟩, ⟨Nat.le_of_ble_eq_true rfl, Nat.le_of_ble_eq_true rfl⟩⟩ rfl (by decide) rfl rfl rfl hl rfl (Nat.le_of_ble_eq_true rfl) dX3_readValues_17 ⟨Nat.zero_le _, Nat.zero_le _⟩ (fun H locs hw => ?_)
      refine lv_istore_n (lv' := [(3, .int r17.1), (0, .ref (ad 11)), (1, .int y1), (2, .int y2)]) hx hb dX3_readValues_20 rfl hl (by decide) rfl (fun ls hl => ?_)
      refine lv_iload_n hx hb dX3_readValues_21 rfl (lv_at hl 0 rfl) ?_
      refine lv_iconst (v := (-1 : Int32)) hx hb dX3_readValues_22 (by decide) ?_
      refine lv_icmp_ne (tgt := 28) hx hb dX3_readValues_23 (by decide) (fun hc => ?_) (fun hc => ?_)
      · replace hM := h_f hc hM
        refine lv_aload_n hx hb dX3_readValues_28 rfl (lv_at hl 1 rfl) ?_
        refine a_getp (q := 12) (σ := aG r17.2) (o := 11) (T := TX3) (N := 7) C wU_X3 hw rfl (by decide) rfl 0 (by decide) rfl wF_X3_12 (aG_P rfl rfl) dX3_readValues_29 ?_
        refine lv_iload_n hx hb dX3_readValues_32 rfl (lv_at hl 2 rfl) ?_
        refine lv_iload_n hx hb dX3_readValues_33 rfl (lv_at hl 3 rfl) ?_
        refine lv_iload_n hx hb dX3_readValues_34 rfl (lv_at hl 0 rfl) ?_
        obtain ⟨r35, hr35, hM⟩ := h_b hM
        refine a_callV (σ' := aG r35) (v := none) (As := fun ad => [.int y1, .int y2, .int r17.1]) (rest := []) (o := 12) C hw (c_X2_setValue l (lin12) hr35) k_X2_setValue wM_X3_145 ⟨⟨rfl, rfl⟩, ⟨Nat.le_of_ble_eq_true rfl, Nat.le_of_ble_eq_true rfl⟩⟩ (aLin_k lin12).1 (by decide) rfl rfl rfl hl rfl (Nat.le_of_ble_eq_true rfl) dX3_readValues_35 ⟨Nat.zero_le _, Nat.zero_le _⟩ (fun H locs hw => ?_)
        refine lv_iinc (v := (y2 + 1)) (lv' := [(2, .int (y2 + 1)), (3, .int r17.1), (0, .ref (ad 11)), (1, .int y1)]) hx hb dX3_readValues_38 hl (k := 3) rfl rfl (by decide) rfl (fun ls hl => ?_)
        refine lv_goto (tgt := 2) hx hb dX3_readValues_41 (by decide) ?_
        exact ih (y1) ((y2 + 1)) hM hw (lv_sub hl [2, 3, 0] rfl)
      · replace hM := h_t hc hM
        refine lv_iconst (v := (0 : Int32)) hx hb dX3_readValues_26 (by decide) ?_
        cases h_e hM
        exact a_zret C (zn (v := 0) (Or.inl rfl)) hw dX3_readValues_27
set_option maxHeartbeats 4000000 in
set_option maxRecDepth 100000 in
theorem c_X3_readValues (l : Launch) {x1 : Int32} {ι : iS} {res : Int32 × iS} (hM : m_X3_readValues x1 ι = some res) : aM l yX3_readValues cX3_readValues 4 (some .boolean) rm_X3_readValues (fun ad => [.ref (ad 11), .int x1]) (aG ι) (some (.int res.1)) (aG res.2) := by
  refine aM.of (by decide) (fun _ => Nat.le_of_ble_eq_true rfl) ?_
  intro p e s m args below meth c D dA ad adV A ls C hw hl
  have C : aX p m c cX3_readValues 4 s args aTs RX3 meth (some .boolean) := C
  have hx := C.1.1
  have hb := C.1.2.1
  have hml := C.1.2.2.1
  have hown := C.1.2.2.2.1
  have hts := C.1.2.2.2.2
  have hl : lv_has ls 4 [(0, .ref (ad 11)), (1, .int x1)] := hl
  unfold m_X3_readValues at hM
  refine lv_iconst (v := (0 : Int32)) hx hb dX3_readValues_0 (by decide) ?_
  refine lv_istore_n (lv' := [(2, .int (0 : Int32)), (0, .ref (ad 11)), (1, .int x1)]) hx hb dX3_readValues_1 rfl hl (by decide) rfl (fun ls hl => ?_)
  exact tl_X3_readValues_2 l C aF (x1) ((0 : Int32)) hM hw (lv_sub hl [1, 2, 0] rfl)
def rm_X3_readFiller : Room := { frames := 3, cells := 0, slots := 0, locals := 67 }
set_option maxHeartbeats 4000000 in
set_option maxRecDepth 100000 in
theorem c_X3_readFiller (l : Launch) {ι : iS} {res : Int32 × iS} (hM : m_X3_readFiller ι = some res) : aM l yX3_readFiller cX3_readFiller 1 (some .boolean) rm_X3_readFiller (fun ad => [.ref (ad 11)]) (aG ι) (some (.int res.1)) (aG res.2) := by
  refine aM.of (by decide) (fun _ => Nat.le_of_ble_eq_true rfl) ?_
  intro p e s m args below meth c D dA ad adV A ls C hw hl
  have C : aX p m c cX3_readFiller 1 s args aTs RX3 meth (some .boolean) := C
  have hx := C.1.1
  have hb := C.1.2.1
  have hml := C.1.2.2.1
  have hown := C.1.2.2.2.1
  have hts := C.1.2.2.2.2
  have hl : lv_has ls 1 [(0, .ref (ad 11))] := hl
  unfold m_X3_readFiller at hM
  refine lv_aload_n hx hb dX3_readFiller_0 rfl (lv_at hl 0 rfl) ?_
  refine a_getp (q := 12) (σ := aG ι) (o := 11) (T := TX3) (N := 7) C wU_X3 hw rfl (by decide) rfl 0 (by decide) rfl wF_X3_12 (aG_P rfl rfl) dX3_readFiller_1 ?_
  refine a_geti (σ := aG ι) (o := 12) (T := TX2) (N := 11) C wU_X2 hw (aLin_k lin12).1 (by decide) rfl 1 (by decide) rfl wF_X3_142 dX3_readFiller_4 ?_
  refine lv_bipush (v := (16 : Int32)) hx hb dX3_readFiller_7 (by decide) ?_
  refine lv_icmp_lt (tgt := 18) hx hb dX3_readFiller_9 (by decide) (fun hc => ?_) (fun hc => ?_)
  · replace hM := h_t hc hM
    refine lv_aload_n hx hb dX3_readFiller_18 rfl (lv_at hl 0 rfl) ?_
    refine lv_dup hx hb dX3_readFiller_19 rfl ?_
    refine a_geti (σ := aG ι) (o := 11) (T := TX3) (N := 7) C wU_X3 hw rfl (by decide) rfl 5 (by decide) rfl wF_X3_39 dX3_readFiller_20 ?_
    refine lv_iconst (v := (1 : Int32)) hx hb dX3_readFiller_23 (by decide) ?_
    refine lv_iadd hx hb dX3_readFiller_24 ?_
    refine a_puti (ty := .int) (σ := aG ι) (o := 11) (T := TX3) (N := 7) (ty0 := tyX3) C wU_X3 tyX3_ok nmX3 hw rfl (by decide) rfl 5 (by decide) rfl wF_X3_39 rfl (by decide +kernel) rfl rfl dX3_readFiller_25 (fun H locs hw => ?_)
    have hw : aW D dA ad adV (aG (pI ι 11 5 ((gI ι 11 5) + (1 : Int32)))) A s H locs := by rw [aG_PI] at hw; exact hw
    refine lv_aload_n hx hb dX3_readFiller_28 rfl (lv_at hl 0 rfl) ?_
    refine a_getp (q := 12) (σ := aG (pI ι 11 5 ((gI ι 11 5) + (1 : Int32)))) (o := 11) (T := TX3) (N := 7) C wU_X3 hw rfl (by decide) rfl 0 (by decide) rfl wF_X3_12 (aG_P rfl rfl) dX3_readFiller_29 ?_
    refine lv_dup hx hb dX3_readFiller_32 rfl ?_
    refine a_geti (σ := aG (pI ι 11 5 ((gI ι 11 5) + (1 : Int32)))) (o := 12) (T := TX2) (N := 11) C wU_X2 hw (aLin_k lin12).1 (by decide) rfl 1 (by decide) rfl wF_X3_142 dX3_readFiller_33 ?_
    refine lv_iconst (v := (1 : Int32)) hx hb dX3_readFiller_36 (by decide) ?_
    refine lv_iadd hx hb dX3_readFiller_37 ?_
    refine a_puti (ty := .int) (σ := aG (pI ι 11 5 ((gI ι 11 5) + (1 : Int32)))) (o := 12) (T := TX2) (N := 11) (ty0 := tyX2) C wU_X2 tyX2_ok nmX2 hw (aLin_k lin12).1 (by decide) rfl 1 (by decide) rfl wF_X3_142 rfl (by decide +kernel) rfl rfl dX3_readFiller_38 (fun H locs hw => ?_)
    have hw : aW D dA ad adV (aG (pI (pI ι 11 5 ((gI ι 11 5) + (1 : Int32))) 12 1 ((gI (pI ι 11 5 ((gI ι 11 5) + (1 : Int32))) 12 1) + (1 : Int32)))) A s H locs := by rw [aG_PI] at hw; exact hw
    refine lv_aload_n hx hb dX3_readFiller_41 rfl (lv_at hl 0 rfl) ?_
    refine lv_aload_n hx hb dX3_readFiller_42 rfl (lv_at hl 0 rfl) ?_
    refine a_getp (q := 12) (σ := aG (pI (pI ι 11 5 ((gI ι 11 5) + (1 : Int32))) 12 1 ((gI (pI ι 11 5 ((gI ι 11 5) + (1 : Int32))) 12 1) + (1 : Int32)))) (o := 11) (T := TX3) (N := 7) C wU_X3 hw rfl (by decide) rfl 0 (by decide) rfl wF_X3_12 (aG_P rfl rfl) dX3_readFiller_43 ?_
    refine a_geti (σ := aG (pI (pI ι 11 5 ((gI ι 11 5) + (1 : Int32))) 12 1 ((gI (pI ι 11 5 ((gI ι 11 5) + (1 : Int32))) 12 1) + (1 : Int32)))) (o := 12) (T := TX2) (N := 11) C wU_X2 hw (aLin_k lin12).1 (by decide) rfl 1 (by decide) rfl wF_X3_142 dX3_readFiller_46 ?_
    refine lv_iconst (v := (1 : Int32)) hx hb dX3_readFiller_49 (by decide) ?_
    refine lv_isub hx hb dX3_readFiller_50 ?_
    obtain ⟨r51, hr51, hM⟩ := h_b hM
    refine a_callV (σ' := aG r51.2) (v := (some (.int r51.1))) (As := fun ad => [.int ((gI (pI (pI ι 11 5 ((gI ι 11 5) + (1 : Int32))) 12 1 ((gI (pI ι 11 5 ((gI ι 11 5) + (1 : Int32))) 12 1) + (1 : Int32))) 12 1) - (1 : Int32))]) (rest := []) (o := 11) C hw (c_X3_readValues l hr51) k_X3_readValues wM_X3_109 ⟨⟨rfl, rfl⟩, ⟨Nat.le_of_ble_eq_true rfl, Nat.le_of_ble_eq_true rfl⟩⟩ rfl (by decide) rfl rfl rfl hl rfl (Nat.le_of_ble_eq_true rfl) dX3_readFiller_51 ⟨Nat.zero_le _, Nat.zero_le _⟩ (fun H locs hw => ?_)
    obtain ⟨hz, hM⟩ := h_g hM
    cases h_e hM
    exact a_zret C (zn hz) hw dX3_readFiller_54
  · replace hM := h_f hc hM
    refine lv_aload_n hx hb dX3_readFiller_12 rfl (lv_at hl 0 rfl) ?_
    refine lv_iconst (v := (3 : Int32)) hx hb dX3_readFiller_13 (by decide) ?_
    obtain ⟨r14, hr14, hM⟩ := h_b hM
    refine a_callV (σ' := aG r14.2) (v := (some (.int r14.1))) (As := fun ad => [.int (3 : Int32)]) (rest := []) (o := 11) C hw (c_X3_fail l hr14) k_X3_fail wM_X3_68 ⟨⟨rfl, rfl⟩, ⟨Nat.le_of_ble_eq_true rfl, Nat.le_of_ble_eq_true rfl⟩⟩ rfl (by decide) rfl rfl rfl hl rfl (Nat.le_of_ble_eq_true rfl) dX3_readFiller_14 ⟨Nat.zero_le _, Nat.zero_le _⟩ (fun H locs hw => ?_)
    obtain ⟨hz, hM⟩ := h_g hM
    cases h_e hM
    exact a_zret C (zn hz) hw dX3_readFiller_17
def rm_X3_readTold : Room := { frames := 2, cells := 0, slots := 0, locals := 44 }
set_option maxHeartbeats 4000000 in
set_option maxRecDepth 100000 in
theorem c_X3_readTold (l : Launch) {ι : iS} {res : Int32 × iS} (hM : m_X3_readTold ι = some res) : aM l yX3_readTold cX3_readTold 4 (some .boolean) rm_X3_readTold (fun ad => [.ref (ad 11)]) (aG ι) (some (.int res.1)) (aG res.2) := by
  refine aM.of (by decide) (fun _ => Nat.le_of_ble_eq_true rfl) ?_
  intro p e s m args below meth c D dA ad adV A ls C hw hl
  have C : aX p m c cX3_readTold 4 s args aTs RX3 meth (some .boolean) := C
  have hx := C.1.1
  have hb := C.1.2.1
  have hml := C.1.2.2.1
  have hown := C.1.2.2.2.1
  have hts := C.1.2.2.2.2
  have hl : lv_has ls 4 [(0, .ref (ad 11))] := hl
  unfold m_X3_readTold at hM
  refine lv_aload_n hx hb dX3_readTold_0 rfl (lv_at hl 0 rfl) ?_
  refine lv_iconst (v := (0 : Int32)) hx hb dX3_readTold_1 (by decide) ?_
  refine lv_aload_n hx hb dX3_readTold_2 rfl (lv_at hl 0 rfl) ?_
  refine a_getp (q := 12) (σ := aG ι) (o := 11) (T := TX3) (N := 7) C wU_X3 hw rfl (by decide) rfl 0 (by decide) rfl wF_X3_12 (aG_P rfl rfl) dX3_readTold_3 ?_
  refine a_geti (σ := aG ι) (o := 12) (T := TX2) (N := 11) C wU_X2 hw (aLin_k lin12).1 (by decide) rfl 0 (by decide) rfl wF_X3_92 dX3_readTold_6 ?_
  refine lv_iconst (v := (1 : Int32)) hx hb dX3_readTold_9 (by decide) ?_
  refine lv_isub hx hb dX3_readTold_10 ?_
  obtain ⟨r11, hr11, hM⟩ := h_b hM
  refine a_callV (σ' := aG r11.2) (v := (some (.int r11.1))) (As := fun ad => [.int (0 : Int32), .int ((gI ι 12 0) - (1 : Int32))]) (rest := []) (o := 11) C hw (c_X3_readNumber l hr11) k_X3_readNumber wM_X3_88 ⟨⟨rfl, rfl⟩, ⟨Nat.le_of_ble_eq_true rfl, Nat.le_of_ble_eq_true rfl⟩⟩ rfl (by decide) rfl rfl rfl hl rfl (Nat.le_of_ble_eq_true rfl) dX3_readTold_11 ⟨Nat.zero_le _, Nat.zero_le _⟩ (fun H locs hw => ?_)
  refine lv_istore_n (lv' := [(1, .int r11.1), (0, .ref (ad 11))]) hx hb dX3_readTold_14 rfl hl (by decide) rfl (fun ls hl => ?_)
  refine lv_iload_n hx hb dX3_readTold_15 rfl (lv_at hl 0 rfl) ?_
  refine lv_iconst (v := (-1 : Int32)) hx hb dX3_readTold_16 (by decide) ?_
  refine lv_icmp_ne (tgt := 24) hx hb dX3_readTold_17 (by decide) (fun hc => ?_) (fun hc => ?_)
  · replace hM := h_f hc hM
    refine lv_aload_n hx hb dX3_readTold_24 rfl (lv_at hl 1 rfl) ?_
    refine lv_iconst (v := (0 : Int32)) hx hb dX3_readTold_25 (by decide) ?_
    refine lv_bipush (v := (9 : Int32)) hx hb dX3_readTold_26 (by decide) ?_
    obtain ⟨r28, hr28, hM⟩ := h_b hM
    refine a_callV (σ' := aG r28.2) (v := (some (.int r28.1))) (As := fun ad => [.int (0 : Int32), .int (9 : Int32)]) (rest := []) (o := 11) C hw (c_X3_readNumber l hr28) k_X3_readNumber wM_X3_88 ⟨⟨rfl, rfl⟩, ⟨Nat.le_of_ble_eq_true rfl, Nat.le_of_ble_eq_true rfl⟩⟩ rfl (by decide) rfl rfl rfl hl rfl (Nat.le_of_ble_eq_true rfl) dX3_readTold_28 ⟨Nat.zero_le _, Nat.zero_le _⟩ (fun H locs hw => ?_)
    refine lv_istore_n (lv' := [(2, .int r28.1), (1, .int r11.1), (0, .ref (ad 11))]) hx hb dX3_readTold_31 rfl hl (by decide) rfl (fun ls hl => ?_)
    refine lv_iload_n hx hb dX3_readTold_32 rfl (lv_at hl 0 rfl) ?_
    refine lv_iconst (v := (-1 : Int32)) hx hb dX3_readTold_33 (by decide) ?_
    refine lv_icmp_ne (tgt := 41) hx hb dX3_readTold_34 (by decide) (fun hc => ?_) (fun hc => ?_)
    · replace hM := h_f hc hM
      refine lv_aload_n hx hb dX3_readTold_41 rfl (lv_at hl 2 rfl) ?_
      refine lv_iconst (v := (1 : Int32)) hx hb dX3_readTold_42 (by decide) ?_
      refine lv_bipush (v := (9 : Int32)) hx hb dX3_readTold_43 (by decide) ?_
      obtain ⟨r45, hr45, hM⟩ := h_b hM
      refine a_callV (σ' := aG r45.2) (v := (some (.int r45.1))) (As := fun ad => [.int (1 : Int32), .int (9 : Int32)]) (rest := []) (o := 11) C hw (c_X3_readNumber l hr45) k_X3_readNumber wM_X3_88 ⟨⟨rfl, rfl⟩, ⟨Nat.le_of_ble_eq_true rfl, Nat.le_of_ble_eq_true rfl⟩⟩ rfl (by decide) rfl rfl rfl hl rfl (Nat.le_of_ble_eq_true rfl) dX3_readTold_45 ⟨Nat.zero_le _, Nat.zero_le _⟩ (fun H locs hw => ?_)
      refine lv_istore_n (lv' := [(3, .int r45.1), (2, .int r28.1), (1, .int r11.1), (0, .ref (ad 11))]) hx hb dX3_readTold_48 rfl hl (by decide) rfl (fun ls hl => ?_)
      refine lv_iload_n hx hb dX3_readTold_49 rfl (lv_at hl 0 rfl) ?_
      refine lv_iconst (v := (-1 : Int32)) hx hb dX3_readTold_50 (by decide) ?_
      refine lv_icmp_ne (tgt := 56) hx hb dX3_readTold_51 (by decide) (fun hc => ?_) (fun hc => ?_)
      · replace hM := h_f hc hM
        refine lv_aload_n hx hb dX3_readTold_56 rfl (lv_at hl 3 rfl) ?_
        refine a_getp (q := 12) (σ := aG r45.2) (o := 11) (T := TX3) (N := 7) C wU_X3 hw rfl (by decide) rfl 0 (by decide) rfl wF_X3_12 (aG_P rfl rfl) dX3_readTold_57 ?_
        refine a_getp (q := 14) (σ := aG r45.2) (o := 12) (T := TX2) (N := 11) C wU_X2 hw (aLin_k lin12).1 (by decide) rfl 4 (by decide) rfl wF_X3_149 (aLin_p lin12 r45.2 1 (by decide)) dX3_readTold_60 ?_
        refine lv_iload_n hx hb dX3_readTold_63 rfl (lv_at hl 2 rfl) ?_
        refine lv_iload_n hx hb dX3_readTold_64 rfl (lv_at hl 1 rfl) ?_
        obtain ⟨hi, hM⟩ := h_i hM
        refine a_iast (σ := aG r45.2) (o := 14) C hw rfl hi rfl dX3_readTold_65 (fun H locs hw => ?_)
        have hw : aW D dA ad adV (aG (pI r45.2 14 r11.1.toNatClampNeg r28.1)) A s H locs := by rw [aG_PI] at hw; exact hw
        refine lv_aload_n hx hb dX3_readTold_66 rfl (lv_at hl 3 rfl) ?_
        refine a_getp (q := 12) (σ := aG (pI r45.2 14 r11.1.toNatClampNeg r28.1)) (o := 11) (T := TX3) (N := 7) C wU_X3 hw rfl (by decide) rfl 0 (by decide) rfl wF_X3_12 (aG_P rfl rfl) dX3_readTold_67 ?_
        refine a_getp (q := 15) (σ := aG (pI r45.2 14 r11.1.toNatClampNeg r28.1)) (o := 12) (T := TX2) (N := 11) C wU_X2 hw (aLin_k lin12).1 (by decide) rfl 5 (by decide) rfl wF_X3_152 (aLin_p lin12 (pI r45.2 14 r11.1.toNatClampNeg r28.1) 2 (by decide)) dX3_readTold_70 ?_
        refine lv_iload_n hx hb dX3_readTold_73 rfl (lv_at hl 2 rfl) ?_
        refine lv_iload_n hx hb dX3_readTold_74 rfl (lv_at hl 0 rfl) ?_
        obtain ⟨hi, hM⟩ := h_i hM
        refine a_iast (σ := aG (pI r45.2 14 r11.1.toNatClampNeg r28.1)) (o := 15) C hw rfl hi rfl dX3_readTold_75 (fun H locs hw => ?_)
        have hw : aW D dA ad adV (aG (pI (pI r45.2 14 r11.1.toNatClampNeg r28.1) 15 r11.1.toNatClampNeg r45.1)) A s H locs := by rw [aG_PI] at hw; exact hw
        refine lv_iconst (v := (1 : Int32)) hx hb dX3_readTold_76 (by decide) ?_
        cases h_e hM
        exact a_zret C (zn (v := 1) (Or.inr rfl)) hw dX3_readTold_77
      · replace hM := h_t hc hM
        refine lv_iconst (v := (0 : Int32)) hx hb dX3_readTold_54 (by decide) ?_
        cases h_e hM
        exact a_zret C (zn (v := 0) (Or.inl rfl)) hw dX3_readTold_55
    · replace hM := h_t hc hM
      refine lv_iconst (v := (-1 : Int32)) hx hb dX3_readTold_37 (by decide) ?_
      refine lv_goto (tgt := 48) hx hb dX3_readTold_38 (by decide) ?_
      refine lv_istore_n (lv' := [(3, .int (-1 : Int32)), (2, .int r28.1), (1, .int r11.1), (0, .ref (ad 11))]) hx hb dX3_readTold_48 rfl hl (by decide) rfl (fun ls hl => ?_)
      refine lv_iload_n hx hb dX3_readTold_49 rfl (lv_at hl 0 rfl) ?_
      refine lv_iconst (v := (-1 : Int32)) hx hb dX3_readTold_50 (by decide) ?_
      refine lv_icmp_ne (tgt := 56) hx hb dX3_readTold_51 (by decide) (fun hc => absurd hc (by decide)) (fun _ => ?_)
      refine lv_iconst (v := (0 : Int32)) hx hb dX3_readTold_54 (by decide) ?_
      cases h_e hM
      exact a_zret C (zn (v := 0) (Or.inl rfl)) hw dX3_readTold_55
  · replace hM := h_t hc hM
    refine lv_iconst (v := (-1 : Int32)) hx hb dX3_readTold_20 (by decide) ?_
    refine lv_goto (tgt := 31) hx hb dX3_readTold_21 (by decide) ?_
    refine lv_istore_n (lv' := [(2, .int (-1 : Int32)), (1, .int r11.1), (0, .ref (ad 11))]) hx hb dX3_readTold_31 rfl hl (by decide) rfl (fun ls hl => ?_)
    refine lv_iload_n hx hb dX3_readTold_32 rfl (lv_at hl 0 rfl) ?_
    refine lv_iconst (v := (-1 : Int32)) hx hb dX3_readTold_33 (by decide) ?_
    refine lv_icmp_ne (tgt := 41) hx hb dX3_readTold_34 (by decide) (fun hc => absurd hc (by decide)) (fun _ => ?_)
    refine lv_iconst (v := (-1 : Int32)) hx hb dX3_readTold_37 (by decide) ?_
    refine lv_goto (tgt := 48) hx hb dX3_readTold_38 (by decide) ?_
    refine lv_istore_n (lv' := [(3, .int (-1 : Int32)), (2, .int (-1 : Int32)), (1, .int r11.1), (0, .ref (ad 11))]) hx hb dX3_readTold_48 rfl hl (by decide) rfl (fun ls hl => ?_)
    refine lv_iload_n hx hb dX3_readTold_49 rfl (lv_at hl 0 rfl) ?_
    refine lv_iconst (v := (-1 : Int32)) hx hb dX3_readTold_50 (by decide) ?_
    refine lv_icmp_ne (tgt := 56) hx hb dX3_readTold_51 (by decide) (fun hc => absurd hc (by decide)) (fun _ => ?_)
    refine lv_iconst (v := (0 : Int32)) hx hb dX3_readTold_54 (by decide) ?_
    cases h_e hM
    exact a_zret C (zn (v := 0) (Or.inl rfl)) hw dX3_readTold_55
