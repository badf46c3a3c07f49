def m_X3_readPart (ι : iS) : Option (Int32 × iS) := Option.bind (m_X4_isWord (gI ι 11 5) 1 ι) fun r10 => if r10.1 = 0 then Option.bind (m_X4_isWord (gI r10.2 11 5) 2 r10.2) fun r31 => if r31.1 = 0 then Option.bind (m_X4_isWord (gI r31.2 11 5) 3 r31.2) fun r62 => if r62.1 = 0 then Option.bind (m_X4_isWord (gI r62.2 11 5) 4 r62.2) fun r101 => if r101.1 = 0 then Option.bind (m_X3_settingAt r101.2) fun r131 => if r131.1 = (-1 : Int32) then Option.bind (m_X3_fail (1 : Int32) r131.2) fun r142 => if r142.1 = 0 ∨ r142.1 = 1 then some (r142.1, r142.2) else none else Option.bind (m_X3_readOnce ((1 : Int32) <<< (r131.1 &&& 31)) r131.2) fun r150 => if r150.1 = 0 then some ((0 : Int32), r150.2) else Option.bind (m_X3_readSetting r131.1 r150.2) fun r158 => if r158.1 = 0 then some ((0 : Int32), r158.2) else some ((1 : Int32), r158.2) else Option.bind (m_X3_readOnce (32 : Int32) r101.2) fun r110 => if r110.1 = 0 then some ((0 : Int32), r110.2) else Option.bind (m_X3_readSum (m_X3_readUnit 20) (0 : Int32) r110.2) fun r118 => if r118.1 = 0 then some ((0 : Int32), r118.2) else some ((1 : Int32), r118.2) else Option.bind (m_X3_readOnce (16 : Int32) r62.2) fun r71 => if r71.1 = 0 then some ((0 : Int32), r71.2) else Option.bind (m_X3_readValues (0 : Int32) r71.2) fun r79 => if r79.1 = 0 then some ((0 : Int32), r79.2) else some ((1 : Int32), r79.2) else Option.bind (m_X3_readTold (pI r31.2 11 5 ((gI r31.2 11 5) + (1 : Int32)))) fun r48 => if r48.1 = 0 ∨ r48.1 = 1 then some (r48.1, r48.2) else none else Option.bind (m_X3_readFiller r10.2) fun r17 => if r17.1 = 0 ∨ r17.1 = 1 then some (r17.1, r17.2) else none
def l_X3_read_46 : Nat → Int32 → Int32 → Int32 → iS → Option (Int32 × iS)
  | 0, _, _, _, _ => none
  | n + 1, y2, y3, y4, ι => if (500 : Int32) ≤ y4 then if (gI ι 11 4) = 0 then if ((gI ι 11 6) &&& (16 : Int32)) = 0 then Option.bind (m_X3_fail (5 : Int32) ι) fun r119 => if (gI r119.2 11 4) = 0 then if (gI (pI r119.2 11 2 (-1 : Int32)) 11 4) = 0 then Option.bind (m_X1_rate 12 (pI r119.2 11 2 (-1 : Int32))) fun r164 => Option.bind (m_X2_showFirst 12 r164) fun r171 => some ((gI r171 11 4), r171) else some ((gI (pI r119.2 11 2 (-1 : Int32)) 11 4), (pI r119.2 11 2 (-1 : Int32))) else Option.bind (m_X4_placeAt (gI r119.2 11 5) r119.2) fun r143 => if (gI (pI r143.2 11 2 r143.1) 11 4) = 0 then Option.bind (m_X1_rate 12 (pI r143.2 11 2 r143.1)) fun r164 => Option.bind (m_X2_showFirst 12 r164) fun r171 => some ((gI r171 11 4), r171) else some ((gI (pI r143.2 11 2 r143.1) 11 4), (pI r143.2 11 2 r143.1)) else if (gI ι 11 4) = 0 then if (gI (pI ι 11 2 (-1 : Int32)) 11 4) = 0 then Option.bind (m_X1_rate 12 (pI ι 11 2 (-1 : Int32))) fun r164 => Option.bind (m_X2_showFirst 12 r164) fun r171 => some ((gI r171 11 4), r171) else some ((gI (pI ι 11 2 (-1 : Int32)) 11 4), (pI ι 11 2 (-1 : Int32))) else Option.bind (m_X4_placeAt (gI ι 11 5) ι) fun r143 => if (gI (pI r143.2 11 2 r143.1) 11 4) = 0 then Option.bind (m_X1_rate 12 (pI r143.2 11 2 r143.1)) fun r164 => Option.bind (m_X2_showFirst 12 r164) fun r171 => some ((gI r171 11 4), r171) else some ((gI (pI r143.2 11 2 r143.1) 11 4), (pI r143.2 11 2 r143.1)) else if (gI ι 11 4) = 0 then if (gI (pI ι 11 2 (-1 : Int32)) 11 4) = 0 then Option.bind (m_X1_rate 12 (pI ι 11 2 (-1 : Int32))) fun r164 => Option.bind (m_X2_showFirst 12 r164) fun r171 => some ((gI r171 11 4), r171) else some ((gI (pI ι 11 2 (-1 : Int32)) 11 4), (pI ι 11 2 (-1 : Int32))) else Option.bind (m_X4_placeAt (gI ι 11 5) ι) fun r143 => if (gI (pI r143.2 11 2 r143.1) 11 4) = 0 then Option.bind (m_X1_rate 12 (pI r143.2 11 2 r143.1)) fun r164 => Option.bind (m_X2_showFirst 12 r164) fun r171 => some ((gI r171 11 4), r171) else some ((gI (pI r143.2 11 2 r143.1) 11 4), (pI r143.2 11 2 r143.1)) else if y3 = 0 then if (gI ι 11 4) = 0 then if ((gI ι 11 6) &&& (16 : Int32)) = 0 then Option.bind (m_X3_fail (5 : Int32) ι) fun r119 => if (gI r119.2 11 4) = 0 then if (gI (pI r119.2 11 2 (-1 : Int32)) 11 4) = 0 then Option.bind (m_X1_rate 12 (pI r119.2 11 2 (-1 : Int32))) fun r164 => Option.bind (m_X2_showFirst 12 r164) fun r171 => some ((gI r171 11 4), r171) else some ((gI (pI r119.2 11 2 (-1 : Int32)) 11 4), (pI r119.2 11 2 (-1 : Int32))) else Option.bind (m_X4_placeAt (gI r119.2 11 5) r119.2) fun r143 => if (gI (pI r143.2 11 2 r143.1) 11 4) = 0 then Option.bind (m_X1_rate 12 (pI r143.2 11 2 r143.1)) fun r164 => Option.bind (m_X2_showFirst 12 r164) fun r171 => some ((gI r171 11 4), r171) else some ((gI (pI r143.2 11 2 r143.1) 11 4), (pI r143.2 11 2 r143.1)) else if (gI ι 11 4) = 0 then if (gI (pI ι 11 2 (-1 : Int32)) 11 4) = 0 then Option.bind (m_X1_rate 12 (pI ι 11 2 (-1 : Int32))) fun r164 => Option.bind (m_X2_showFirst 12 r164) fun r171 => some ((gI r171 11 4), r171) else some ((gI (pI ι 11 2 (-1 : Int32)) 11 4), (pI ι 11 2 (-1 : Int32))) else Option.bind (m_X4_placeAt (gI ι 11 5) ι) fun r143 => if (gI (pI r143.2 11 2 r143.1) 11 4) = 0 then Option.bind (m_X1_rate 12 (pI r143.2 11 2 r143.1)) fun r164 => Option.bind (m_X2_showFirst 12 r164) fun r171 => some ((gI r171 11 4), r171) else some ((gI (pI r143.2 11 2 r143.1) 11 4), (pI r143.2 11 2 r143.1)) else if (gI ι 11 4) = 0 then if (gI (pI ι 11 2 (-1 : Int32)) 11 4) = 0 then Option.bind (m_X1_rate 12 (pI ι 11 2 (-1 : Int32))) fun r164 => Option.bind (m_X2_showFirst 12 r164) fun r171 => some ((gI r171 11 4), r171) else some ((gI (pI ι 11 2 (-1 : Int32)) 11 4), (pI ι 11 2 (-1 : Int32))) else Option.bind (m_X4_placeAt (gI ι 11 5) ι) fun r143 => if (gI (pI r143.2 11 2 r143.1) 11 4) = 0 then Option.bind (m_X1_rate 12 (pI r143.2 11 2 r143.1)) fun r164 => Option.bind (m_X2_showFirst 12 r164) fun r171 => some ((gI r171 11 4), r171) else some ((gI (pI r143.2 11 2 r143.1) 11 4), (pI r143.2 11 2 r143.1)) else Option.bind (m_X4_isEnd (gI ι 11 5) ι) fun r66 => if r66.1 = 0 then Option.bind (m_X3_readPart r66.2) fun r73 => if r73.1 = 0 then l_X3_read_46 n y2 (0 : Int32) (y4 + 1) r73.2 else Option.bind (m_X3_readSign (59 : Int32) r73.2) fun r82 => if r82.1 = 0 then l_X3_read_46 n y2 (0 : Int32) (y4 + 1) r82.2 else l_X3_read_46 n y2 (1 : Int32) (y4 + 1) r82.2 else if (gI r66.2 11 4) = 0 then if ((gI r66.2 11 6) &&& (16 : Int32)) = 0 then Option.bind (m_X3_fail (5 : Int32) r66.2) fun r119 => if (gI r119.2 11 4) = 0 then if (gI (pI r119.2 11 2 (-1 : Int32)) 11 4) = 0 then Option.bind (m_X1_rate 12 (pI r119.2 11 2 (-1 : Int32))) fun r164 => Option.bind (m_X2_showFirst 12 r164) fun r171 => some ((gI r171 11 4), r171) else some ((gI (pI r119.2 11 2 (-1 : Int32)) 11 4), (pI r119.2 11 2 (-1 : Int32))) else Option.bind (m_X4_placeAt (gI r119.2 11 5) r119.2) fun r143 => if (gI (pI r143.2 11 2 r143.1) 11 4) = 0 then Option.bind (m_X1_rate 12 (pI r143.2 11 2 r143.1)) fun r164 => Option.bind (m_X2_showFirst 12 r164) fun r171 => some ((gI r171 11 4), r171) else some ((gI (pI r143.2 11 2 r143.1) 11 4), (pI r143.2 11 2 r143.1)) else if (gI r66.2 11 4) = 0 then if (gI (pI r66.2 11 2 (-1 : Int32)) 11 4) = 0 then Option.bind (m_X1_rate 12 (pI r66.2 11 2 (-1 : Int32))) fun r164 => Option.bind (m_X2_showFirst 12 r164) fun r171 => some ((gI r171 11 4), r171) else some ((gI (pI r66.2 11 2 (-1 : Int32)) 11 4), (pI r66.2 11 2 (-1 : Int32))) else Option.bind (m_X4_placeAt (gI r66.2 11 5) r66.2) fun r143 => if (gI (pI r143.2 11 2 r143.1) 11 4) = 0 then Option.bind (m_X1_rate 12 (pI r143.2 11 2 r143.1)) fun r164 => Option.bind (m_X2_showFirst 12 r164) fun r171 => some ((gI r171 11 4), r171) else some ((gI (pI r143.2 11 2 r143.1) 11 4), (pI r143.2 11 2 r143.1)) else if (gI r66.2 11 4) = 0 then if (gI (pI r66.2 11 2 (-1 : Int32)) 11 4) = 0 then Option.bind (m_X1_rate 12 (pI r66.2 11 2 (-1 : Int32))) fun r164 => Option.bind (m_X2_showFirst 12 r164) fun r171 => some ((gI r171 11 4), r171) else some ((gI (pI r66.2 11 2 (-1 : Int32)) 11 4), (pI r66.2 11 2 (-1 : Int32))) else Option.bind (m_X4_placeAt (gI r66.2 11 5) r66.2) fun r143 => if (gI (pI r143.2 11 2 r143.1) 11 4) = 0 then Option.bind (m_X1_rate 12 (pI r143.2 11 2 r143.1)) fun r164 => Option.bind (m_X2_showFirst 12 r164) fun r171 => some ((gI r171 11 4), r171) else some ((gI (pI r143.2 11 2 r143.1) 11 4), (pI r143.2 11 2 r143.1))
def m_X3_read (x2 : Int32) (ι : iS) : Option (Int32 × iS) := Option.bind (m_X4_scan x2 ι) fun r6 => Option.bind (m_X2_clear 12 r6) fun r13 => Option.bind (m_X1_clear r13) fun r20 => Option.bind (m_X3_readTraits (pI (pI (pI r20 11 4 (0 : Int32)) 11 5 (0 : Int32)) 11 6 (0 : Int32))) fun r39 => l_X3_read_46 aF x2 r39.1 (0 : Int32) r39.2
theorem k_X3_readPart : aCal RX3 yX3_readPart cX3_readPart 2 (some .boolean) 0 := ⟨wI_yX3_readPart, wE_yX3_readPart, wZ_X3, wC_yX3_readPart, by decide +kernel⟩
theorem k_X3_read : aCal RX3 yX3_read cX3_read 5 (some .int) 2 := ⟨wI_yX3_read, wE_yX3_read, wZ_X3, wC_yX3_read, by decide +kernel⟩
def rm_X3_readPart : Room := { frames := 103, cells := 0, slots := 0, locals := 2470 }
set_option maxHeartbeats 4000000 in
set_option maxRecDepth 100000 in
theorem c_X3_readPart (l : Launch) {ι : iS} {res : Int32 × iS} (hM : m_X3_readPart ι = some res) : aM l yX3_readPart cX3_readPart 2 (some .boolean) rm_X3_readPart (fun ad => [.ref (ad 11)]) (aG ι) (some (.int res.1)) (aG res.2) := by
  refine aM.of (by decide) (fun _ => Nat.le_of_ble_eq_true rfl) ?_
  intro p e s m args below meth c D dA ad adV A ls C hw hl
  have C : aX p m c cX3_readPart 2 s args aTs RX3 meth (some .boolean) := C
  have hx := C.1.1
  have hb := C.1.2.1
  have hml := C.1.2.2.1
  have hown := C.1.2.2.2.1
  have hts := C.1.2.2.2.2
  have hl : lv_has ls 2 [(0, .ref (ad 11))] := hl
  unfold m_X3_readPart at hM
  refine lv_aload_n hx hb dX3_readPart_0 rfl (lv_at hl 0 rfl) ?_
  refine a_getp (q := 24) (σ := aG ι) (o := 11) (T := TX3) (N := 7) C wU_X3 hw rfl (by decide) rfl 3 (by decide) rfl wF_X3_32 (aG_P rfl rfl) dX3_readPart_1 ?_
  refine lv_aload_n hx hb dX3_readPart_4 rfl (lv_at hl 0 rfl) ?_
  refine a_geti (σ := aG ι) (o := 11) (T := TX3) (N := 7) C wU_X3 hw rfl (by decide) rfl 5 (by decide) rfl wF_X3_39 dX3_readPart_5 ?_
  refine a_ldcS (tx := "filler") (q := 1000001) C hw (by decide) dX3_readPart_8 ?_
  obtain ⟨r10, hr10, hM⟩ := h_b hM
  refine a_callV (σ' := aG r10.2) (v := (some (.int r10.1))) (As := fun ad => [.int (gI ι 11 5), .ref (ad 1000001)]) (rest := []) (o := 24) C hw (c_X4_isWord l (by decide) hr10) k_X4_isWord wM_X3_84 ⟨⟨rfl, rfl⟩, ⟨Nat.le_of_ble_eq_true rfl, Nat.le_of_ble_eq_true rfl⟩⟩ rfl (by decide) rfl rfl rfl hl rfl (Nat.le_of_ble_eq_true rfl) dX3_readPart_10 ⟨Nat.zero_le _, Nat.zero_le _⟩ (fun H locs hw => ?_)
  refine lv_if_eq (tgt := 21) hx hb dX3_readPart_13 (by decide) (fun hc => ?_) (fun hc => ?_)
  · replace hM := h_t hc hM
    refine lv_aload_n hx hb dX3_readPart_21 rfl (lv_at hl 0 rfl) ?_
    refine a_getp (q := 24) (σ := aG r10.2) (o := 11) (T := TX3) (N := 7) C wU_X3 hw rfl (by decide) rfl 3 (by decide) rfl wF_X3_32 (aG_P rfl rfl) dX3_readPart_22 ?_
    refine lv_aload_n hx hb dX3_readPart_25 rfl (lv_at hl 0 rfl) ?_
    refine a_geti (σ := aG r10.2) (o := 11) (T := TX3) (N := 7) C wU_X3 hw rfl (by decide) rfl 5 (by decide) rfl wF_X3_39 dX3_readPart_26 ?_
    refine a_ldcS (tx := "told") (q := 1000002) C hw (by decide) dX3_readPart_29 ?_
    obtain ⟨r31, hr31, hM⟩ := h_b hM
    refine a_callV (σ' := aG r31.2) (v := (some (.int r31.1))) (As := fun ad => [.int (gI r10.2 11 5), .ref (ad 1000002)]) (rest := []) (o := 24) C hw (c_X4_isWord l (by decide) hr31) k_X4_isWord wM_X3_84 ⟨⟨rfl, rfl⟩, ⟨Nat.le_of_ble_eq_true rfl, Nat.le_of_ble_eq_true rfl⟩⟩ rfl (by decide) rfl rfl rfl hl rfl (Nat.le_of_ble_eq_true rfl) dX3_readPart_31 ⟨Nat.zero_le _, Nat.zero_le _⟩ (fun H locs hw => ?_)
    refine lv_if_eq (tgt := 52) hx hb dX3_readPart_34 (by decide) (fun hc => ?_) (fun hc => ?_)
    · replace hM := h_t hc hM
      refine lv_aload_n hx hb dX3_readPart_52 rfl (lv_at hl 0 rfl) ?_
      refine a_getp (q := 24) (σ := aG r31.2) (o := 11) (T := TX3) (N := 7) C wU_X3 hw rfl (by decide) rfl 3 (by decide) rfl wF_X3_32 (aG_P rfl rfl) dX3_readPart_53 ?_
      refine lv_aload_n hx hb dX3_readPart_56 rfl (lv_at hl 0 rfl) ?_
      refine a_geti (σ := aG r31.2) (o := 11) (T := TX3) (N := 7) C wU_X3 hw rfl (by decide) rfl 5 (by decide) rfl wF_X3_39 dX3_readPart_57 ?_
      refine a_ldcS (tx := "suspect") (q := 1000003) C hw (by decide) dX3_readPart_60 ?_
      obtain ⟨r62, hr62, hM⟩ := h_b hM
      refine a_callV (σ' := aG r62.2) (v := (some (.int r62.1))) (As := fun ad => [.int (gI r31.2 11 5), .ref (ad 1000003)]) (rest := []) (o := 24) C hw (c_X4_isWord l (by decide) hr62) k_X4_isWord wM_X3_84 ⟨⟨rfl, rfl⟩, ⟨Nat.le_of_ble_eq_true rfl, Nat.le_of_ble_eq_true rfl⟩⟩ rfl (by decide) rfl rfl rfl hl rfl (Nat.le_of_ble_eq_true rfl) dX3_readPart_62 ⟨Nat.zero_le _, Nat.zero_le _⟩ (fun H locs hw => ?_)
      refine lv_if_eq (tgt := 91) hx hb dX3_readPart_65 (by decide) (fun hc => ?_) (fun hc => ?_)
      · replace hM := h_t hc hM
        refine lv_aload_n hx hb dX3_readPart_91 rfl (lv_at hl 0 rfl) ?_
        refine a_getp (q := 24) (σ := aG r62.2) (o := 11) (T := TX3) (N := 7) C wU_X3 hw rfl (by decide) rfl 3 (by decide) rfl wF_X3_32 (aG_P rfl rfl) dX3_readPart_92 ?_
        refine lv_aload_n hx hb dX3_readPart_95 rfl (lv_at hl 0 rfl) ?_
        refine a_geti (σ := aG r62.2) (o := 11) (T := TX3) (N := 7) C wU_X3 hw rfl (by decide) rfl 5 (by decide) rfl wF_X3_39 dX3_readPart_96 ?_
        refine a_ldcS (tx := "match") (q := 1000004) C hw (by decide) dX3_readPart_99 ?_
        obtain ⟨r101, hr101, hM⟩ := h_b hM
        refine a_callV (σ' := aG r101.2) (v := (some (.int r101.1))) (As := fun ad => [.int (gI r62.2 11 5), .ref (ad 1000004)]) (rest := []) (o := 24) C hw (c_X4_isWord l (by decide) hr101) k_X4_isWord wM_X3_84 ⟨⟨rfl, rfl⟩, ⟨Nat.le_of_ble_eq_true rfl, Nat.le_of_ble_eq_true rfl⟩⟩ rfl (by decide) rfl rfl rfl hl rfl (Nat.le_of_ble_eq_true rfl) dX3_readPart_101 ⟨Nat.zero_le _, Nat.zero_le _⟩ (fun H locs hw => ?_)
        refine lv_if_eq (tgt := 130) hx hb dX3_readPart_104 (by decide) (fun hc => ?_) (fun hc => ?_)
        · replace hM := h_t hc hM
          refine lv_aload_n hx hb dX3_readPart_130 rfl (lv_at hl 0 rfl) ?_
          obtain ⟨r131, hr131, hM⟩ := h_b hM
          refine a_callV (σ' := aG r131.2) (v := (some (.int r131.1))) (As := fun ad => []) (rest := []) (o := 11) C hw (c_X3_settingAt l hr131) k_X3_settingAt wM_X3_117 ⟨⟨rfl, rfl⟩, ⟨Nat.le_of_ble_eq_true rfl, Nat.le_of_ble_eq_true rfl⟩⟩ rfl (by decide) rfl rfl rfl hl rfl (Nat.le_of_ble_eq_true rfl) dX3_readPart_131 ⟨Nat.zero_le _, Nat.zero_le _⟩ (fun H locs hw => ?_)
          refine lv_istore_n (lv' := [(1, .int r131.1), (0, .ref (ad 11))]) hx hb dX3_readPart_134 rfl hl (by decide) rfl (fun ls hl => ?_)
          refine lv_iload_n hx hb dX3_readPart_135 rfl (lv_at hl 0 rfl) ?_
          refine lv_iconst (v := (-1 : Int32)) hx hb dX3_readPart_136 (by decide) ?_
          refine lv_icmp_ne (tgt := 146) hx hb dX3_readPart_137 (by decide) (fun hc => ?_) (fun hc => ?_)
          · replace hM := h_f hc hM
            refine lv_aload_n hx hb dX3_readPart_146 rfl (lv_at hl 1 rfl) ?_
            refine lv_iconst (v := (1 : Int32)) hx hb dX3_readPart_147 (by decide) ?_
            refine lv_iload_n hx hb dX3_readPart_148 rfl (lv_at hl 0 rfl) ?_
            refine lv_ishl hx hb dX3_readPart_149 ?_
            obtain ⟨r150, hr150, hM⟩ := h_b hM
            refine a_callV (σ' := aG r150.2) (v := (some (.int r150.1))) (As := fun ad => [.int ((1 : Int32) <<< (r131.1 &&& 31))]) (rest := []) (o := 11) C hw (c_X3_readOnce l hr150) k_X3_readOnce wM_X3_106 ⟨⟨rfl, rfl⟩, ⟨Nat.le_of_ble_eq_true rfl, Nat.le_of_ble_eq_true rfl⟩⟩ rfl (by decide) rfl rfl rfl hl rfl (Nat.le_of_ble_eq_true rfl) dX3_readPart_150 ⟨Nat.zero_le _, Nat.zero_le _⟩ (fun H locs hw => ?_)
            refine lv_if_eq (tgt := 168) hx hb dX3_readPart_153 (by decide) (fun hc => ?_) (fun hc => ?_)
            · replace hM := h_t hc hM
              refine lv_iconst (v := (0 : Int32)) hx hb dX3_readPart_168 (by decide) ?_
              cases h_e hM
              exact a_zret C (zn (v := 0) (Or.inl rfl)) hw dX3_readPart_169
            · replace hM := h_f hc hM
              refine lv_aload_n hx hb dX3_readPart_156 rfl (lv_at hl 1 rfl) ?_
              refine lv_iload_n hx hb dX3_readPart_157 rfl (lv_at hl 0 rfl) ?_
              obtain ⟨r158, hr158, hM⟩ := h_b hM
              refine a_callV (σ' := aG r158.2) (v := (some (.int r158.1))) (As := fun ad => [.int r131.1]) (rest := []) (o := 11) C hw (c_X3_readSetting l hr158) k_X3_readSetting wM_X3_121 ⟨⟨rfl, rfl⟩, ⟨Nat.le_of_ble_eq_true rfl, Nat.le_of_ble_eq_true rfl⟩⟩ rfl (by decide) rfl rfl rfl hl rfl (Nat.le_of_ble_eq_true rfl) dX3_readPart_158 ⟨Nat.zero_le _, Nat.zero_le _⟩ (fun H locs hw => ?_)
              refine lv_if_eq (tgt := 168) hx hb dX3_readPart_161 (by decide) (fun hc => ?_) (fun hc => ?_)
              · replace hM := h_t hc hM
                refine lv_iconst (v := (0 : Int32)) hx hb dX3_readPart_168 (by decide) ?_
                cases h_e hM
                exact a_zret C (zn (v := 0) (Or.inl rfl)) hw dX3_readPart_169
              · replace hM := h_f hc hM
                refine lv_iconst (v := (1 : Int32)) hx hb dX3_readPart_164 (by decide) ?_
                refine lv_goto (tgt := 169) hx hb dX3_readPart_165 (by decide) ?_
                cases h_e hM
                exact a_zret C (zn (v := 1) (Or.inr rfl)) hw dX3_readPart_169
          · replace hM := h_t hc hM
            refine lv_aload_n hx hb dX3_readPart_140 rfl (lv_at hl 1 rfl) ?_
            refine lv_iconst (v := (1 : Int32)) hx hb dX3_readPart_141 (by decide) ?_
            obtain ⟨r142, hr142, hM⟩ := h_b hM
            refine a_callV (σ' := aG r142.2) (v := (some (.int r142.1))) (As := fun ad => [.int (1 : Int32)]) (rest := []) (o := 11) C hw (c_X3_fail l hr142) k_X3_fail wM_X3_68 ⟨⟨rfl, rfl⟩, ⟨Nat.le_of_ble_eq_true rfl, Nat.le_of_ble_eq_true rfl⟩⟩ rfl (by decide) rfl rfl rfl hl rfl (Nat.le_of_ble_eq_true rfl) dX3_readPart_142 ⟨Nat.zero_le _, Nat.zero_le _⟩ (fun H locs hw => ?_)
            obtain ⟨hz, hM⟩ := h_g hM
            cases h_e hM
            exact a_zret C (zn hz) hw dX3_readPart_145
        · replace hM := h_f hc hM
          refine lv_aload_n hx hb dX3_readPart_107 rfl (lv_at hl 0 rfl) ?_
          refine lv_bipush (v := (32 : Int32)) hx hb dX3_readPart_108 (by decide) ?_
          obtain ⟨r110, hr110, hM⟩ := h_b hM
          refine a_callV (σ' := aG r110.2) (v := (some (.int r110.1))) (As := fun ad => [.int (32 : Int32)]) (rest := []) (o := 11) C hw (c_X3_readOnce l hr110) k_X3_readOnce wM_X3_106 ⟨⟨rfl, rfl⟩, ⟨Nat.le_of_ble_eq_true rfl, Nat.le_of_ble_eq_true rfl⟩⟩ rfl (by decide) rfl rfl rfl hl rfl (Nat.le_of_ble_eq_true rfl) dX3_readPart_110 ⟨Nat.zero_le _, Nat.zero_le _⟩ (fun H locs hw => ?_)
          refine lv_if_eq (tgt := 128) hx hb dX3_readPart_113 (by decide) (fun hc => ?_) (fun hc => ?_)
          · replace hM := h_t hc hM
            refine lv_iconst (v := (0 : Int32)) hx hb dX3_readPart_128 (by decide) ?_
            cases h_e hM
            exact a_zret C (zn (v := 0) (Or.inl rfl)) hw dX3_readPart_129
          · replace hM := h_f hc hM
            refine lv_aload_n hx hb dX3_readPart_116 rfl (lv_at hl 0 rfl) ?_
            refine lv_iconst (v := (0 : Int32)) hx hb dX3_readPart_117 (by decide) ?_
            obtain ⟨r118, hr118, hM⟩ := h_b hM
            refine a_callV (σ' := aG r118.2) (v := (some (.int r118.1))) (As := fun ad => [.int (0 : Int32)]) (rest := []) (o := 11) C hw (c_X3_readSum l (f := 40 + 3 * 20) (w := 1000 + 70 * 20) (by omega) (by omega) (fun h => c_X3_readUnit l 20 h) hr118) k_X3_readSum wM_X3_114 ⟨⟨rfl, rfl⟩, ⟨by first | (simp only [aRm, rm_X3_readPart]; done) | (simp only [aRm, rm_X3_readPart]; omega), by first | (simp only [aRm, rm_X3_readPart]; done) | (simp only [aRm, rm_X3_readPart]; omega)⟩⟩ rfl (by decide) rfl rfl rfl hl rfl (Nat.le_of_ble_eq_true rfl) dX3_readPart_118 ⟨Nat.zero_le _, Nat.zero_le _⟩ (fun H locs hw => ?_)
            refine lv_if_eq (tgt := 128) hx hb dX3_readPart_121 (by decide) (fun hc => ?_) (fun hc => ?_)
            · replace hM := h_t hc hM
              refine lv_iconst (v := (0 : Int32)) hx hb dX3_readPart_128 (by decide) ?_
              cases h_e hM
              exact a_zret C (zn (v := 0) (Or.inl rfl)) hw dX3_readPart_129
            · replace hM := h_f hc hM
              refine lv_iconst (v := (1 : Int32)) hx hb dX3_readPart_124 (by decide) ?_
              refine lv_goto (tgt := 129) hx hb dX3_readPart_125 (by decide) ?_
              cases h_e hM
              exact a_zret C (zn (v := 1) (Or.inr rfl)) hw dX3_readPart_129
      · replace hM := h_f hc hM
        refine lv_aload_n hx hb dX3_readPart_68 rfl (lv_at hl 0 rfl) ?_
        refine lv_bipush (v := (16 : Int32)) hx hb dX3_readPart_69 (by decide) ?_
        obtain ⟨r71, hr71, hM⟩ := h_b hM
        refine a_callV (σ' := aG r71.2) (v := (some (.int r71.1))) (As := fun ad => [.int (16 : Int32)]) (rest := []) (o := 11) C hw (c_X3_readOnce l hr71) k_X3_readOnce wM_X3_106 ⟨⟨rfl, rfl⟩, ⟨Nat.le_of_ble_eq_true rfl, Nat.le_of_ble_eq_true rfl⟩⟩ rfl (by decide) rfl rfl rfl hl rfl (Nat.le_of_ble_eq_true rfl) dX3_readPart_71 ⟨Nat.zero_le _, Nat.zero_le _⟩ (fun H locs hw => ?_)
        refine lv_if_eq (tgt := 89) hx hb dX3_readPart_74 (by decide) (fun hc => ?_) (fun hc => ?_)
        · replace hM := h_t hc hM
          refine lv_iconst (v := (0 : Int32)) hx hb dX3_readPart_89 (by decide) ?_
          cases h_e hM
          exact a_zret C (zn (v := 0) (Or.inl rfl)) hw dX3_readPart_90
        · replace hM := h_f hc hM
          refine lv_aload_n hx hb dX3_readPart_77 rfl (lv_at hl 0 rfl) ?_
          refine lv_iconst (v := (0 : Int32)) hx hb dX3_readPart_78 (by decide) ?_
          obtain ⟨r79, hr79, hM⟩ := h_b hM
          refine a_callV (σ' := aG r79.2) (v := (some (.int r79.1))) (As := fun ad => [.int (0 : Int32)]) (rest := []) (o := 11) C hw (c_X3_readValues l hr79) k_X3_readValues wM_X3_109 ⟨⟨rfl, rfl⟩, ⟨Nat.le_of_ble_eq_true rfl, Nat.le_of_ble_eq_true rfl⟩⟩ rfl (by decide) rfl rfl rfl hl rfl (Nat.le_of_ble_eq_true rfl) dX3_readPart_79 ⟨Nat.zero_le _, Nat.zero_le _⟩ (fun H locs hw => ?_)
          refine lv_if_eq (tgt := 89) hx hb dX3_readPart_82 (by decide) (fun hc => ?_) (fun hc => ?_)
          · replace hM := h_t hc hM
            refine lv_iconst (v := (0 : Int32)) hx hb dX3_readPart_89 (by decide) ?_
            cases h_e hM
            exact a_zret C (zn (v := 0) (Or.inl rfl)) hw dX3_readPart_90
          · replace hM := h_f hc hM
            refine lv_iconst (v := (1 : Int32)) hx hb dX3_readPart_85 (by decide) ?_
            refine lv_goto (tgt := 90) hx hb dX3_readPart_86 (by decide) ?_
            cases h_e hM
            exact a_zret C (zn (v := 1) (Or.inr rfl)) hw dX3_readPart_90
    · replace hM := h_f hc hM
      refine lv_aload_n hx hb dX3_readPart_37 rfl (lv_at hl 0 rfl) ?_
      refine lv_dup hx hb dX3_readPart_38 rfl ?_
      refine a_geti (σ := aG r31.2) (o := 11) (T := TX3) (N := 7) C wU_X3 hw rfl (by decide) rfl 5 (by decide) rfl wF_X3_39 dX3_readPart_39 ?_
      refine lv_iconst (v := (1 : Int32)) hx hb dX3_readPart_42 (by decide) ?_
      refine lv_iadd hx hb dX3_readPart_43 ?_
      refine a_puti (ty := .int) (σ := aG r31.2) (o := 11) (T := TX3) (N := 7) (ty0 := tyX3) C wU_X3 tyX3_ok nmX3 hw rfl (by decide) rfl 5 (by decide) rfl wF_X3_39 rfl (by decide +kernel) rfl rfl dX3_readPart_44 (fun H locs hw => ?_)
      have hw : aW D dA ad adV (aG (pI r31.2 11 5 ((gI r31.2 11 5) + (1 : Int32)))) A s H locs := by rw [aG_PI] at hw; exact hw
      refine lv_aload_n hx hb dX3_readPart_47 rfl (lv_at hl 0 rfl) ?_
      obtain ⟨r48, hr48, hM⟩ := h_b hM
      refine a_callV (σ' := aG r48.2) (v := (some (.int r48.1))) (As := fun ad => []) (rest := []) (o := 11) C hw (c_X3_readTold l hr48) k_X3_readTold wM_X3_101 ⟨⟨rfl, rfl⟩, ⟨Nat.le_of_ble_eq_true rfl, Nat.le_of_ble_eq_true rfl⟩⟩ rfl (by decide) rfl rfl rfl hl rfl (Nat.le_of_ble_eq_true rfl) dX3_readPart_48 ⟨Nat.zero_le _, Nat.zero_le _⟩ (fun H locs hw => ?_)
      obtain ⟨hz, hM⟩ := h_g hM
      cases h_e hM
      exact a_zret C (zn hz) hw dX3_readPart_51
  · replace hM := h_f hc hM
    refine lv_aload_n hx hb dX3_readPart_16 rfl (lv_at hl 0 rfl) ?_
    obtain ⟨r17, hr17, hM⟩ := h_b hM
    refine a_callV (σ' := aG r17.2) (v := (some (.int r17.1))) (As := fun ad => []) (rest := []) (o := 11) C hw (c_X3_readFiller l hr17) k_X3_readFiller wM_X3_96 ⟨⟨rfl, rfl⟩, ⟨Nat.le_of_ble_eq_true rfl, Nat.le_of_ble_eq_true rfl⟩⟩ rfl (by decide) rfl rfl rfl hl rfl (Nat.le_of_ble_eq_true rfl) dX3_readPart_17 ⟨Nat.zero_le _, Nat.zero_le _⟩ (fun H locs hw => ?_)
    obtain ⟨hz, hM⟩ := h_g hM
    cases h_e hM
    exact a_zret C (zn hz) hw dX3_readPart_20
def rm_X3_read : Room := { frames := 104, cells := 0, slots := 0, locals := 2491 }
set_option maxHeartbeats 4000000 in
set_option maxRecDepth 100000 in
theorem tl_X3_read_46 (l : Launch) {p : Program} {e : Env} {s : State} {m : MethodId} {args : Array Value} {below : List Frame} {meth : Method} {c : Code} {D : va_G} {dA : Nat → ClassId} {ad adV : Nat → Nat} {A : Nat → Prop} (C : aX p m c cX3_read 5 s args aTs RX3 meth (some .int)) {res : Int32 × iS} : ∀ (n : Nat) (y2 : Int32) (y3 : Int32) (y4 : Int32) {ι : iS}, l_X3_read_46 n y2 y3 y4 ι = some res → ∀ {H : Heap} {locs : List Loc} {ls : Array Slot}, aW D dA ad adV (aG ι) A s H locs → lv_has ls 5 [(0, .ref (ad 11)), (1, .ref (ad 1)), (2, .int y2), (3, .int y3), (4, .int y4)] → W p l e rm_X3_read s m args below meth c H locs 0 0 (MQ below (aQ D dA ad (aG res.2) A (some (.int res.1))) args s 0 0 A) (F0 m 46 ls []) := by
  have hx := C.1.1
  have hb := C.1.2.1
  have hml := C.1.2.2.1
  have hown := C.1.2.2.2.1
  have hts := C.1.2.2.2.2
  intro n
  induction n with
  | zero => intro y2 y3 y4 ι hM; simp [l_X3_read_46] at hM
  | succ n ih =>
    intro y2 y3 y4 ι hM H locs ls hw hl
    rw [l_X3_read_46] at hM
    refine lv_iload hx hb dX3_read_46 (lv_at hl 4 rfl) ?_
    refine lv_sipush (v := (500 : Int32)) hx hb dX3_read_48 (by decide) ?_
    refine lv_icmp_ge (tgt := 100) hx hb dX3_read_51 (by decide) (fun hc => ?_) (fun hc => ?_)
    · replace hM := h_t hc hM
      refine lv_aload_n hx hb dX3_read_100 rfl (lv_at hl 0 rfl) ?_
      refine a_geti (σ := aG ι) (o := 11) (T := TX3) (N := 7) C wU_X3 hw rfl (by decide) rfl 4 (by decide) rfl wF_X3_36 dX3_read_101 ?_
      refine lv_if_ne (tgt := 123) hx hb dX3_read_104 (by decide) (fun hc => ?_) (fun hc => ?_)
      · replace hM := h_f hc hM
        refine lv_aload_n hx hb dX3_read_123 rfl (lv_at hl 0 rfl) ?_
        refine lv_aload_n hx hb dX3_read_124 rfl (lv_at hl 0 rfl) ?_
        refine a_geti (σ := aG ι) (o := 11) (T := TX3) (N := 7) C wU_X3 hw rfl (by decide) rfl 4 (by decide) rfl wF_X3_36 dX3_read_125 ?_
        refine lv_if_ne (tgt := 135) hx hb dX3_read_128 (by decide) (fun hc => ?_) (fun hc => ?_)
        · replace hM := h_f hc hM
          refine lv_aload_n hx hb dX3_read_135 rfl (lv_at hl 0 rfl) ?_
          refine a_getp (q := 24) (σ := aG ι) (o := 11) (T := TX3) (N := 7) C wU_X3 hw rfl (by decide) rfl 3 (by decide) rfl wF_X3_32 (aG_P rfl rfl) dX3_read_136 ?_
          refine lv_aload_n hx hb dX3_read_139 rfl (lv_at hl 0 rfl) ?_
          refine a_geti (σ := aG ι) (o := 11) (T := TX3) (N := 7) C wU_X3 hw rfl (by decide) rfl 5 (by decide) rfl wF_X3_39 dX3_read_140 ?_
          obtain ⟨r143, hr143, hM⟩ := h_b hM
          refine a_callV (σ' := aG r143.2) (v := (some (.int r143.1))) (As := fun ad => [.int (gI ι 11 5)]) (rest := [.ref (ad 11)]) (o := 24) C hw (c_X4_placeAt l hr143) k_X4_placeAt wM_X3_71 ⟨⟨rfl, rfl⟩, ⟨Nat.le_of_ble_eq_true rfl, Nat.le_of_ble_eq_true rfl⟩⟩ rfl (by decide) rfl rfl rfl hl rfl (Nat.le_of_ble_eq_true rfl) dX3_read_143 ⟨Nat.zero_le _, Nat.zero_le _⟩ (fun H locs hw => ?_)
          refine a_puti (ty := .int) (σ := aG r143.2) (o := 11) (T := TX3) (N := 7) (ty0 := tyX3) C wU_X3 tyX3_ok nmX3 hw rfl (by decide) rfl 2 (by decide) rfl wF_X3_25 rfl (by decide +kernel) rfl rfl dX3_read_146 (fun H locs hw => ?_)
          have hw : aW D dA ad adV (aG (pI r143.2 11 2 r143.1)) A s H locs := by rw [aG_PI] at hw; exact hw
          refine lv_aload_n hx hb dX3_read_149 rfl (lv_at hl 0 rfl) ?_
          refine a_geti (σ := aG (pI r143.2 11 2 r143.1)) (o := 11) (T := TX3) (N := 7) C wU_X3 hw rfl (by decide) rfl 4 (by decide) rfl wF_X3_36 dX3_read_150 ?_
          refine lv_if_ne (tgt := 174) hx hb dX3_read_153 (by decide) (fun hc => ?_) (fun hc => ?_)
          · replace hM := h_f hc hM
            refine lv_aload_n hx hb dX3_read_174 rfl (lv_at hl 0 rfl) ?_
            refine a_geti (σ := aG (pI r143.2 11 2 r143.1)) (o := 11) (T := TX3) (N := 7) C wU_X3 hw rfl (by decide) rfl 4 (by decide) rfl wF_X3_36 dX3_read_175 ?_
            cases h_e hM
            exact a_iret C hw dX3_read_178
          · replace hM := h_t hc hM
            refine lv_aload_n hx hb dX3_read_156 rfl (lv_at hl 0 rfl) ?_
            refine a_getp (q := 21) (σ := aG (pI r143.2 11 2 r143.1)) (o := 11) (T := TX3) (N := 7) C wU_X3 hw rfl (by decide) rfl 1 (by decide) rfl wF_X3_21 (aG_P rfl rfl) dX3_read_157 ?_
            refine lv_aload_n hx hb dX3_read_160 rfl (lv_at hl 0 rfl) ?_
            refine a_getp (q := 12) (σ := aG (pI r143.2 11 2 r143.1)) (o := 11) (T := TX3) (N := 7) C wU_X3 hw rfl (by decide) rfl 0 (by decide) rfl wF_X3_12 (aG_P rfl rfl) dX3_read_161 ?_
            obtain ⟨r164, hr164, hM⟩ := h_b hM
            refine a_callV (σ' := aG r164) (v := none) (As := fun ad => [.ref (ad 12)]) (rest := []) (o := 21) C hw (c_X1_rate l (lin12) hr164) k_X1_rate wM_X3_75 ⟨⟨rfl, rfl⟩, ⟨Nat.le_of_ble_eq_true rfl, Nat.le_of_ble_eq_true rfl⟩⟩ rfl (by decide) rfl rfl rfl hl rfl (Nat.le_of_ble_eq_true rfl) dX3_read_164 ⟨Nat.zero_le _, Nat.zero_le _⟩ (fun H locs hw => ?_)
            refine lv_aload_n hx hb dX3_read_167 rfl (lv_at hl 0 rfl) ?_
            refine a_getp (q := 12) (σ := aG r164) (o := 11) (T := TX3) (N := 7) C wU_X3 hw rfl (by decide) rfl 0 (by decide) rfl wF_X3_12 (aG_P rfl rfl) dX3_read_168 ?_
            obtain ⟨r171, hr171, hM⟩ := h_b hM
            refine a_callV (σ' := aG r171) (v := none) (As := fun ad => []) (rest := []) (o := 12) C hw (c_X2_showFirst l (lin12) hr171) k_X2_showFirst wM_X3_79 ⟨⟨rfl, rfl⟩, ⟨Nat.le_of_ble_eq_true rfl, Nat.le_of_ble_eq_true rfl⟩⟩ (aLin_k lin12).1 (by decide) rfl rfl rfl hl rfl (Nat.le_of_ble_eq_true rfl) dX3_read_171 ⟨Nat.zero_le _, Nat.zero_le _⟩ (fun H locs hw => ?_)
            refine lv_aload_n hx hb dX3_read_174 rfl (lv_at hl 0 rfl) ?_
            refine a_geti (σ := aG r171) (o := 11) (T := TX3) (N := 7) C wU_X3 hw rfl (by decide) rfl 4 (by decide) rfl wF_X3_36 dX3_read_175 ?_
            cases h_e hM
            exact a_iret C hw dX3_read_178
        · replace hM := h_t hc hM
          refine lv_iconst (v := (-1 : Int32)) hx hb dX3_read_131 (by decide) ?_
          refine lv_goto (tgt := 146) hx hb dX3_read_132 (by decide) ?_
          refine a_puti (ty := .int) (σ := aG ι) (o := 11) (T := TX3) (N := 7) (ty0 := tyX3) C wU_X3 tyX3_ok nmX3 hw rfl (by decide) rfl 2 (by decide) rfl wF_X3_25 rfl (by decide +kernel) rfl rfl dX3_read_146 (fun H locs hw => ?_)
          have hw : aW D dA ad adV (aG (pI ι 11 2 (-1 : Int32))) A s H locs := by rw [aG_PI] at hw; exact hw
          refine lv_aload_n hx hb dX3_read_149 rfl (lv_at hl 0 rfl) ?_
          refine a_geti (σ := aG (pI ι 11 2 (-1 : Int32))) (o := 11) (T := TX3) (N := 7) C wU_X3 hw rfl (by decide) rfl 4 (by decide) rfl wF_X3_36 dX3_read_150 ?_
          refine lv_if_ne (tgt := 174) hx hb dX3_read_153 (by decide) (fun hc => ?_) (fun hc => ?_)
          · replace hM := h_f hc hM
            refine lv_aload_n hx hb dX3_read_174 rfl (lv_at hl 0 rfl) ?_
            refine a_geti (σ := aG (pI ι 11 2 (-1 : Int32))) (o := 11) (T := TX3) (N := 7) C wU_X3 hw rfl (by decide) rfl 4 (by decide) rfl wF_X3_36 dX3_read_175 ?_
            cases h_e hM
            exact a_iret C hw dX3_read_178
          · replace hM := h_t hc hM
            refine lv_aload_n hx hb dX3_read_156 rfl (lv_at hl 0 rfl) ?_
            refine a_getp (q := 21) (σ := aG (pI ι 11 2 (-1 : Int32))) (o := 11) (T := TX3) (N := 7) C wU_X3 hw rfl (by decide) rfl 1 (by decide) rfl wF_X3_21 (aG_P rfl rfl) dX3_read_157 ?_
            refine lv_aload_n hx hb dX3_read_160 rfl (lv_at hl 0 rfl) ?_
            refine a_getp (q := 12) (σ := aG (pI ι 11 2 (-1 : Int32))) (o := 11) (T := TX3) (N := 7) C wU_X3 hw rfl (by decide) rfl 0 (by decide) rfl wF_X3_12 (aG_P rfl rfl) dX3_read_161 ?_
            obtain ⟨r164, hr164, hM⟩ := h_b hM
            refine a_callV (σ' := aG r164) (v := none) (As := fun ad => [.ref (ad 12)]) (rest := []) (o := 21) C hw (c_X1_rate l (lin12) hr164) k_X1_rate wM_X3_75 ⟨⟨rfl, rfl⟩, ⟨Nat.le_of_ble_eq_true rfl, Nat.le_of_ble_eq_true rfl⟩⟩ rfl (by decide) rfl rfl rfl hl rfl (Nat.le_of_ble_eq_true rfl) dX3_read_164 ⟨Nat.zero_le _, Nat.zero_le _⟩ (fun H locs hw => ?_)
            refine lv_aload_n hx hb dX3_read_167 rfl (lv_at hl 0 rfl) ?_
            refine a_getp (q := 12) (σ := aG r164) (o := 11) (T := TX3) (N := 7) C wU_X3 hw rfl (by decide) rfl 0 (by decide) rfl wF_X3_12 (aG_P rfl rfl) dX3_read_168 ?_
            obtain ⟨r171, hr171, hM⟩ := h_b hM
            refine a_callV (σ' := aG r171) (v := none) (As := fun ad => []) (rest := []) (o := 12) C hw (c_X2_showFirst l (lin12) hr171) k_X2_showFirst wM_X3_79 ⟨⟨rfl, rfl⟩, ⟨Nat.le_of_ble_eq_true rfl, Nat.le_of_ble_eq_true rfl⟩⟩ (aLin_k lin12).1 (by decide) rfl rfl rfl hl rfl (Nat.le_of_ble_eq_true rfl) dX3_read_171 ⟨Nat.zero_le _, Nat.zero_le _⟩ (fun H locs hw => ?_)
            refine lv_aload_n hx hb dX3_read_174 rfl (lv_at hl 0 rfl) ?_
            refine a_geti (σ := aG r171) (o := 11) (T := TX3) (N := 7) C wU_X3 hw rfl (by decide) rfl 4 (by decide) rfl wF_X3_36 dX3_read_175 ?_
            cases h_e hM
            exact a_iret C hw dX3_read_178
      · replace hM := h_t hc hM
        refine lv_aload_n hx hb dX3_read_107 rfl (lv_at hl 0 rfl) ?_
        refine a_geti (σ := aG ι) (o := 11) (T := TX3) (N := 7) C wU_X3 hw rfl (by decide) rfl 6 (by decide) rfl wF_X3_42 dX3_read_108 ?_
        refine lv_bipush (v := (16 : Int32)) hx hb dX3_read_111 (by decide) ?_
        refine lv_iand hx hb dX3_read_113 ?_
        refine lv_if_ne (tgt := 123) hx hb dX3_read_114 (by decide) (fun hc => ?_) (fun hc => ?_)
        · replace hM := h_f hc hM
          refine lv_aload_n hx hb dX3_read_123 rfl (lv_at hl 0 rfl) ?_
          refine lv_aload_n hx hb dX3_read_124 rfl (lv_at hl 0 rfl) ?_
          refine a_geti (σ := aG ι) (o := 11) (T := TX3) (N := 7) C wU_X3 hw rfl (by decide) rfl 4 (by decide) rfl wF_X3_36 dX3_read_125 ?_
          refine lv_if_ne (tgt := 135) hx hb dX3_read_128 (by decide) (fun hc => ?_) (fun hc => ?_)
          · replace hM := h_f hc hM
            refine lv_aload_n hx hb dX3_read_135 rfl (lv_at hl 0 rfl) ?_
            refine a_getp (q := 24) (σ := aG ι) (o := 11) (T := TX3) (N := 7) C wU_X3 hw rfl (by decide) rfl 3 (by decide) rfl wF_X3_32 (aG_P rfl rfl) dX3_read_136 ?_
            refine lv_aload_n hx hb dX3_read_139 rfl (lv_at hl 0 rfl) ?_
            refine a_geti (σ := aG ι) (o := 11) (T := TX3) (N := 7) C wU_X3 hw rfl (by decide) rfl 5 (by decide) rfl wF_X3_39 dX3_read_140 ?_
            obtain ⟨r143, hr143, hM⟩ := h_b hM
            refine a_callV (σ' := aG r143.2) (v := (some (.int r143.1))) (As := fun ad => [.int (gI ι 11 5)]) (rest := [.ref (ad 11)]) (o := 24) C hw (c_X4_placeAt l hr143) k_X4_placeAt wM_X3_71 ⟨⟨rfl, rfl⟩, ⟨Nat.le_of_ble_eq_true rfl, Nat.le_of_ble_eq_true rfl⟩⟩ rfl (by decide) rfl rfl rfl hl rfl (Nat.le_of_ble_eq_true rfl) dX3_read_143 ⟨Nat.zero_le _, Nat.zero_le _⟩ (fun H locs hw => ?_)
            refine a_puti (ty := .int) (σ := aG r143.2) (o := 11) (T := TX3) (N := 7) (ty0 := tyX3) C wU_X3 tyX3_ok nmX3 hw rfl (by decide) rfl 2 (by decide) rfl wF_X3_25 rfl (by decide +kernel) rfl rfl dX3_read_146 (fun H locs hw => ?_)
            have hw : aW D dA ad adV (aG (pI r143.2 11 2 r143.1)) A s H locs := by rw [aG_PI] at hw; exact hw
            refine lv_aload_n hx hb dX3_read_149 rfl (lv_at hl 0 rfl) ?_
            refine a_geti (σ := aG (pI r143.2 11 2 r143.1)) (o := 11) (T := TX3) (N := 7) C wU_X3 hw rfl (by decide) rfl 4 (by decide) rfl wF_X3_36 dX3_read_150 ?_
            refine lv_if_ne (tgt := 174) hx hb dX3_read_153 (by decide) (fun hc => ?_) (fun hc => ?_)
            · replace hM := h_f hc hM
              refine lv_aload_n hx hb dX3_read_174 rfl (lv_at hl 0 rfl) ?_
              refine a_geti (σ := aG (pI r143.2 11 2 r143.1)) (o := 11) (T := TX3) (N := 7) C wU_X3 hw rfl (by decide) rfl 4 (by decide) rfl wF_X3_36 dX3_read_175 ?_
              cases h_e hM
              exact a_iret C hw dX3_read_178
            · replace hM := h_t hc hM
              refine lv_aload_n hx hb dX3_read_156 rfl (lv_at hl 0 rfl) ?_
              refine a_getp (q := 21) (σ := aG (pI r143.2 11 2 r143.1)) (o := 11) (T := TX3) (N := 7) C wU_X3 hw rfl (by decide) rfl 1 (by decide) rfl wF_X3_21 (aG_P rfl rfl) dX3_read_157 ?_
              refine lv_aload_n hx hb dX3_read_160 rfl (lv_at hl 0 rfl) ?_
              refine a_getp (q := 12) (σ := aG (pI r143.2 11 2 r143.1)) (o := 11) (T := TX3) (N := 7) C wU_X3 hw rfl (by decide) rfl 0 (by decide) rfl wF_X3_12 (aG_P rfl rfl) dX3_read_161 ?_
              obtain ⟨r164, hr164, hM⟩ := h_b hM
              refine a_callV (σ' := aG r164) (v := none) (As := fun ad => [.ref (ad 12)]) (rest := []) (o := 21) C hw (c_X1_rate l (lin12) hr164) k_X1_rate wM_X3_75 ⟨⟨rfl, rfl⟩, ⟨Nat.le_of_ble_eq_true rfl, Nat.le_of_ble_eq_true rfl⟩⟩ rfl (by decide) rfl rfl rfl hl rfl (Nat.le_of_ble_eq_true rfl) dX3_read_164 ⟨Nat.zero_le _, Nat.zero_le _⟩ (fun H locs hw => ?_)
              refine lv_aload_n hx hb dX3_read_167 rfl (lv_at hl 0 rfl) ?_
              refine a_getp (q := 12) (σ := aG r164) (o := 11) (T := TX3) (N := 7) C wU_X3 hw rfl (by decide) rfl 0 (by decide) rfl wF_X3_12 (aG_P rfl rfl) dX3_read_168 ?_
              obtain ⟨r171, hr171, hM⟩ := h_b hM
              refine a_callV (σ' := aG r171) (v := none) (As := fun ad => []) (rest := []) (o := 12) C hw (c_X2_showFirst l (lin12) hr171) k_X2_showFirst wM_X3_79 ⟨⟨rfl, rfl⟩, ⟨Nat.le_of_ble_eq_true rfl, Nat.le_of_ble_eq_true rfl⟩⟩ (aLin_k lin12).1 (by decide) rfl rfl rfl hl rfl (Nat.le_of_ble_eq_true rfl) dX3_read_171 ⟨Nat.zero_le _, Nat.zero_le _⟩ (fun H locs hw => ?_)
              refine lv_aload_n hx hb dX3_read_174 rfl (lv_at hl 0 rfl) ?_
              refine a_geti (σ := aG r171) (o := 11) (T := TX3) (N := 7) C wU_X3 hw rfl (by decide) rfl 4 (by decide) rfl wF_X3_36 dX3_read_175 ?_
              cases h_e hM
              exact a_iret C hw dX3_read_178
          · replace hM := h_t hc hM
            refine lv_iconst (v := (-1 : Int32)) hx hb dX3_read_131 (by decide) ?_
            refine lv_goto (tgt := 146) hx hb dX3_read_132 (by decide) ?_
            refine a_puti (ty := .int) (σ := aG ι) (o := 11) (T := TX3) (N := 7) (ty0 := tyX3) C wU_X3 tyX3_ok nmX3 hw rfl (by decide) rfl 2 (by decide) rfl wF_X3_25 rfl (by decide +kernel) rfl rfl dX3_read_146 (fun H locs hw => ?_)
            have hw : aW D dA ad adV (aG (pI ι 11 2 (-1 : Int32))) A s H locs := by rw [aG_PI] at hw; exact hw
            refine lv_aload_n hx hb dX3_read_149 rfl (lv_at hl 0 rfl) ?_
            refine a_geti (σ := aG (pI ι 11 2 (-1 : Int32))) (o := 11) (T := TX3) (N := 7) C wU_X3 hw rfl (by decide) rfl 4 (by decide) rfl wF_X3_36 dX3_read_150 ?_
            refine lv_if_ne (tgt := 174) hx hb dX3_read_153 (by decide) (fun hc => ?_) (fun hc => ?_)
            · replace hM := h_f hc hM
              refine lv_aload_n hx hb dX3_read_174 rfl (lv_at hl 0 rfl) ?_
              refine a_geti (σ := aG (pI ι 11 2 (-1 : Int32))) (o := 11) (T := TX3) (N := 7) C wU_X3 hw rfl (by decide) rfl 4 (by decide) rfl wF_X3_36 dX3_read_175 ?_
              cases h_e hM
              exact a_iret C hw dX3_read_178
            · replace hM := h_t hc hM
              refine lv_aload_n hx hb dX3_read_156 rfl (lv_at hl 0 rfl) ?_
              refine a_getp (q := 21) (σ := aG (pI ι 11 2 (-1 : Int32))) (o := 11) (T := TX3) (N := 7) C wU_X3 hw rfl (by decide) rfl 1 (by decide) rfl wF_X3_21 (aG_P rfl rfl) dX3_read_157 ?_
              refine lv_aload_n hx hb dX3_read_160 rfl (lv_at hl 0 rfl) ?_
              refine a_getp (q := 12) (σ := aG (pI ι 11 2 (-1 : Int32))) (o := 11) (T := TX3) (N := 7) C wU_X3 hw rfl (by decide) rfl 0 (by decide) rfl wF_X3_12 (aG_P rfl rfl) dX3_read_161 ?_
              obtain ⟨r164, hr164, hM⟩ := h_b hM
              refine a_callV (σ' := aG r164) (v := none) (As := fun ad => [.ref (ad 12)]) (rest := []) (o := 21) C hw (c_X1_rate l (lin12) hr164) k_X1_rate wM_X3_75 ⟨⟨rfl, rfl⟩, ⟨Nat.le_of_ble_eq_true rfl, Nat.le_of_ble_eq_true rfl⟩⟩ rfl (by decide) rfl rfl rfl hl rfl (Nat.le_of_ble_eq_true rfl) dX3_read_164 ⟨Nat.zero_le _, Nat.zero_le _⟩ (fun H locs hw => ?_)
              refine lv_aload_n hx hb dX3_read_167 rfl (lv_at hl 0 rfl) ?_
              refine a_getp (q := 12) (σ := aG r164) (o := 11) (T := TX3) (N := 7) C wU_X3 hw rfl (by decide) rfl 0 (by decide) rfl wF_X3_12 (aG_P rfl rfl) dX3_read_168 ?_
              obtain ⟨r171, hr171, hM⟩ := h_b hM
              refine a_callV (σ' := aG r171) (v := none) (As := fun ad => []) (rest := []) (o := 12) C hw (c_X2_showFirst l (lin12) hr171) k_X2_showFirst wM_X3_79 ⟨⟨rfl, rfl⟩, ⟨Nat.le_of_ble_eq_true rfl, Nat.le_of_ble_eq_true rfl⟩⟩ (aLin_k lin12).1 (by decide) rfl rfl rfl hl rfl (Nat.le_of_ble_eq_true rfl) dX3_read_171 ⟨Nat.zero_le _, Nat.zero_le _⟩ (fun H locs hw => ?_)
              refine lv_aload_n hx hb dX3_read_174 rfl (lv_at hl 0 rfl) ?_
              refine a_geti (σ := aG r171) (o := 11) (T := TX3) (N := 7) C wU_X3 hw rfl (by decide) rfl 4 (by decide) rfl wF_X3_36 dX3_read_175 ?_
              cases h_e hM
              exact a_iret C hw dX3_read_178
        · replace hM := h_t hc hM
          refine lv_aload_n hx hb dX3_read_117 rfl (lv_at hl 0 rfl) ?_
          refine lv_iconst (v := (5 : Int32)) hx hb dX3_read_118 (by decide) ?_
          obtain ⟨r119, hr119, hM⟩ := h_b hM
          refine a_callV (σ' := aG r119.2) (v := (some (.int r119.1))) (As := fun ad => [.int (5 : Int32)]) (rest := []) (o := 11) C hw (c_X3_fail l hr119) k_X3_fail wM_X3_68 ⟨⟨rfl, rfl⟩, ⟨Nat.le_of_ble_eq_true rfl, Nat.le_of_ble_eq_true rfl⟩⟩ rfl (by decide) rfl rfl rfl hl rfl (Nat.le_of_ble_eq_true rfl) dX3_read_119 ⟨Nat.zero_le _, Nat.zero_le _⟩ (fun H locs hw => ?_)
          refine lv_pop hx hb dX3_read_122 rfl ?_
          refine lv_aload_n hx hb dX3_read_123 rfl (lv_at hl 0 rfl) ?_
          refine lv_aload_n hx hb dX3_read_124 rfl (lv_at hl 0 rfl) ?_
          refine a_geti (σ := aG r119.2) (o := 11) (T := TX3) (N := 7) C wU_X3 hw rfl (by decide) rfl 4 (by decide) rfl wF_X3_36 dX3_read_125 ?_
          refine lv_if_ne (tgt := 135) hx hb dX3_read_128 (by decide) (fun hc => ?_) (fun hc => ?_)
          · replace hM := h_f hc hM
            refine lv_aload_n hx hb dX3_read_135 rfl (lv_at hl 0 rfl) ?_
            refine a_getp (q := 24) (σ := aG r119.2) (o := 11) (T := TX3) (N := 7) C wU_X3 hw rfl (by decide) rfl 3 (by decide) rfl wF_X3_32 (aG_P rfl rfl) dX3_read_136 ?_
            refine lv_aload_n hx hb dX3_read_139 rfl (lv_at hl 0 rfl) ?_
            refine a_geti (σ := aG r119.2) (o := 11) (T := TX3) (N := 7) C wU_X3 hw rfl (by decide) rfl 5 (by decide) rfl wF_X3_39 dX3_read_140 ?_
            obtain ⟨r143, hr143, hM⟩ := h_b hM
            refine a_callV (σ' := aG r143.2) (v := (some (.int r143.1))) (As := fun ad => [.int (gI r119.2 11 5)]) (rest := [.ref (ad 11)]) (o := 24) C hw (c_X4_placeAt l hr143) k_X4_placeAt wM_X3_71 ⟨⟨rfl, rfl⟩, ⟨Nat.le_of_ble_eq_true rfl, Nat.le_of_ble_eq_true rfl⟩⟩ rfl (by decide) rfl rfl rfl hl rfl (Nat.le_of_ble_eq_true rfl) dX3_read_143 ⟨Nat.zero_le _, Nat.zero_le _⟩ (fun H locs hw => ?_)
            refine a_puti (ty := .int) (σ := aG r143.2) (o := 11) (T := TX3) (N := 7) (ty0 := tyX3) C wU_X3 tyX3_ok nmX3 hw rfl (by decide) rfl 2 (by decide) rfl wF_X3_25 rfl (by decide +kernel) rfl rfl dX3_read_146 (fun H locs hw => ?_)
            have hw : aW D dA ad adV (aG (pI r143.2 11 2 r143.1)) A s H locs := by rw [aG_PI] at hw; exact hw
            refine lv_aload_n hx hb dX3_read_149 rfl (lv_at hl 0 rfl) ?_
            refine a_geti (σ := aG (pI r143.2 11 2 r143.1)) (o := 11) (T := TX3) (N := 7) C wU_X3 hw rfl (by decide) rfl 4 (by decide) rfl wF_X3_36 dX3_read_150 ?_
            refine lv_if_ne (tgt := 174) hx hb dX3_read_153 (by decide) (fun hc => ?_) (fun hc => ?_)
            · replace hM := h_f hc hM
              refine lv_aload_n hx hb dX3_read_174 rfl (lv_at hl 0 rfl) ?_
              refine a_geti (σ := aG (pI r143.2 11 2 r143.1)) (o := 11) (T := TX3) (N := 7) C wU_X3 hw rfl (by decide) rfl 4 (by decide) rfl wF_X3_36 dX3_read_175 ?_
              cases h_e hM
              exact a_iret C hw dX3_read_178
            · replace hM := h_t hc hM
              refine lv_aload_n hx hb dX3_read_156 rfl (lv_at hl 0 rfl) ?_
              refine a_getp (q := 21) (σ := aG (pI r143.2 11 2 r143.1)) (o := 11) (T := TX3) (N := 7) C wU_X3 hw rfl (by decide) rfl 1 (by decide) rfl wF_X3_21 (aG_P rfl rfl) dX3_read_157 ?_
              refine lv_aload_n hx hb dX3_read_160 rfl (lv_at hl 0 rfl) ?_
              refine a_getp (q := 12) (σ := aG (pI r143.2 11 2 r143.1)) (o := 11) (T := TX3) (N := 7) C wU_X3 hw rfl (by decide) rfl 0 (by decide) rfl wF_X3_12 (aG_P rfl rfl) dX3_read_161 ?_
              obtain ⟨r164, hr164, hM⟩ := h_b hM
              refine a_callV (σ' := aG r164) (v := none) (As := fun ad => [.ref (ad 12)]) (rest := []) (o := 21) C hw (c_X1_rate l (lin12) hr164) k_X1_rate wM_X3_75 ⟨⟨rfl, rfl⟩, ⟨Nat.le_of_ble_eq_true rfl, Nat.le_of_ble_eq_true rfl⟩⟩ rfl (by decide) rfl rfl rfl hl rfl (Nat.le_of_ble_eq_true rfl) dX3_read_164 ⟨Nat.zero_le _, Nat.zero_le _⟩ (fun H locs hw => ?_)
              refine lv_aload_n hx hb dX3_read_167 rfl (lv_at hl 0 rfl) ?_
              refine a_getp (q := 12) (σ := aG r164) (o := 11) (T := TX3) (N := 7) C wU_X3 hw rfl (by decide) rfl 0 (by decide) rfl wF_X3_12 (aG_P rfl rfl) dX3_read_168 ?_
              obtain ⟨r171, hr171, hM⟩ := h_b hM
              refine a_callV (σ' := aG r171) (v := none) (As := fun ad => []) (rest := []) (o := 12) C hw (c_X2_showFirst l (lin12) hr171) k_X2_showFirst wM_X3_79 ⟨⟨rfl, rfl⟩, ⟨Nat.le_of_ble_eq_true rfl, Nat.le_of_ble_eq_true rfl⟩⟩ (aLin_k lin12).1 (by decide) rfl rfl rfl hl rfl (Nat.le_of_ble_eq_true rfl) dX3_read_171 ⟨Nat.zero_le _, Nat.zero_le _⟩ (fun H locs hw => ?_)
              refine lv_aload_n hx hb dX3_read_174 rfl (lv_at hl 0 rfl) ?_
              refine a_geti (σ := aG r171) (o := 11) (T := TX3) (N := 7) C wU_X3 hw rfl (by decide) rfl 4 (by decide) rfl wF_X3_36 dX3_read_175 ?_
              cases h_e hM
              exact a_iret C hw dX3_read_178
          · replace hM := h_t hc hM
            refine lv_iconst (v := (-1 : Int32)) hx hb dX3_read_131 (by decide) ?_
            refine lv_goto (tgt := 146) hx hb dX3_read_132 (by decide) ?_
            refine a_puti (ty := .int) (σ := aG r119.2) (o := 11) (T := TX3) (N := 7) (ty0 := tyX3) C wU_X3 tyX3_ok nmX3 hw rfl (by decide) rfl 2 (by decide) rfl wF_X3_25 rfl (by decide +kernel) rfl rfl dX3_read_146 (fun H locs hw => ?_)
            have hw : aW D dA ad adV (aG (pI r119.2 11 2 (-1 : Int32))) A s H locs := by rw [aG_PI] at hw; exact hw
            refine lv_aload_n hx hb dX3_read_149 rfl (lv_at hl 0 rfl) ?_
            refine a_geti (σ := aG (pI r119.2 11 2 (-1 : Int32))) (o := 11) (T := TX3) (N := 7) C wU_X3 hw rfl (by decide) rfl 4 (by decide) rfl wF_X3_36 dX3_read_150 ?_
            refine lv_if_ne (tgt := 174) hx hb dX3_read_153 (by decide) (fun hc => ?_) (fun hc => ?_)
            · replace hM := h_f hc hM
              refine lv_aload_n hx hb dX3_read_174 rfl (lv_at hl 0 rfl) ?_
              refine a_geti (σ := aG (pI r119.2 11 2 (-1 : Int32))) (o := 11) (T := TX3) (N := 7) C wU_X3 hw rfl (by decide) rfl 4 (by decide) rfl wF_X3_36 dX3_read_175 ?_
              cases h_e hM
              exact a_iret C hw dX3_read_178
            · replace hM := h_t hc hM
              refine lv_aload_n hx hb dX3_read_156 rfl (lv_at hl 0 rfl) ?_
              refine a_getp (q := 21) (σ := aG (pI r119.2 11 2 (-1 : Int32))) (o := 11) (T := TX3) (N := 7) C wU_X3 hw rfl (by decide) rfl 1 (by decide) rfl wF_X3_21 (aG_P rfl rfl) dX3_read_157 ?_
              refine lv_aload_n hx hb dX3_read_160 rfl (lv_at hl 0 rfl) ?_
              refine a_getp (q := 12) (σ := aG (pI r119.2 11 2 (-1 : Int32))) (o := 11) (T := TX3) (N := 7) C wU_X3 hw rfl (by decide) rfl 0 (by decide) rfl wF_X3_12 (aG_P rfl rfl) dX3_read_161 ?_
              obtain ⟨r164, hr164, hM⟩ := h_b hM
              refine a_callV (σ' := aG r164) (v := none) (As := fun ad => [.ref (ad 12)]) (rest := []) (o := 21) C hw (c_X1_rate l (lin12) hr164) k_X1_rate wM_X3_75 ⟨⟨rfl, rfl⟩, ⟨Nat.le_of_ble_eq_true rfl, Nat.le_of_ble_eq_true rfl⟩⟩ rfl (by decide) rfl rfl rfl hl rfl (Nat.le_of_ble_eq_true rfl) dX3_read_164 ⟨Nat.zero_le _, Nat.zero_le _⟩ (fun H locs hw => ?_)
              refine lv_aload_n hx hb dX3_read_167 rfl (lv_at hl 0 rfl) ?_
              refine a_getp (q := 12) (σ := aG r164) (o := 11) (T := TX3) (N := 7) C wU_X3 hw rfl (by decide) rfl 0 (by decide) rfl wF_X3_12 (aG_P rfl rfl) dX3_read_168 ?_
              obtain ⟨r171, hr171, hM⟩ := h_b hM
              refine a_callV (σ' := aG r171) (v := none) (As := fun ad => []) (rest := []) (o := 12) C hw (c_X2_showFirst l (lin12) hr171) k_X2_showFirst wM_X3_79 ⟨⟨rfl, rfl⟩, ⟨Nat.le_of_ble_eq_true rfl, Nat.le_of_ble_eq_true rfl⟩⟩ (aLin_k lin12).1 (by decide) rfl rfl rfl hl rfl (Nat.le_of_ble_eq_true rfl) dX3_read_171 ⟨Nat.zero_le _, Nat.zero_le _⟩ (fun H locs hw => ?_)
              refine lv_aload_n hx hb dX3_read_174 rfl (lv_at hl 0 rfl) ?_
              refine a_geti (σ := aG r171) (o := 11) (T := TX3) (N := 7) C wU_X3 hw rfl (by decide) rfl 4 (by decide) rfl wF_X3_36 dX3_read_175 ?_
              cases h_e hM
              exact a_iret C hw dX3_read_178
    · replace hM := h_f hc hM
      refine lv_iload_n hx hb dX3_read_54 rfl (lv_at hl 3 rfl) ?_
      refine lv_if_eq (tgt := 100) hx hb dX3_read_55 (by decide) (fun hc => ?_) (fun hc => ?_)
      · replace hM := h_t hc hM
        refine lv_aload_n hx hb dX3_read_100 rfl (lv_at hl 0 rfl) ?_
        refine a_geti (σ := aG ι) (o := 11) (T := TX3) (N := 7) C wU_X3 hw rfl (by decide) rfl 4 (by decide) rfl wF_X3_36 dX3_read_101 ?_
        refine lv_if_ne (tgt := 123) hx hb dX3_read_104 (by decide) (fun hc => ?_) (fun hc => ?_)
        · replace hM := h_f hc hM
          refine lv_aload_n hx hb dX3_read_123 rfl (lv_at hl 0 rfl) ?_
          refine lv_aload_n hx hb dX3_read_124 rfl (lv_at hl 0 rfl) ?_
          refine a_geti (σ := aG ι) (o := 11) (T := TX3) (N := 7) C wU_X3 hw rfl (by decide) rfl 4 (by decide) rfl wF_X3_36 dX3_read_125 ?_
          refine lv_if_ne (tgt := 135) hx hb dX3_read_128 (by decide) (fun hc => ?_) (fun hc => ?_)
          · replace hM := h_f hc hM
            refine lv_aload_n hx hb dX3_read_135 rfl (lv_at hl 0 rfl) ?_
            refine a_getp (q := 24) (σ := aG ι) (o := 11) (T := TX3) (N := 7) C wU_X3 hw rfl (by decide) rfl 3 (by decide) rfl wF_X3_32 (aG_P rfl rfl) dX3_read_136 ?_
            refine lv_aload_n hx hb dX3_read_139 rfl (lv_at hl 0 rfl) ?_
            refine a_geti (σ := aG ι) (o := 11) (T := TX3) (N := 7) C wU_X3 hw rfl (by decide) rfl 5 (by decide) rfl wF_X3_39 dX3_read_140 ?_
            obtain ⟨r143, hr143, hM⟩ := h_b hM
            refine a_callV (σ' := aG r143.2) (v := (some (.int r143.1))) (As := fun ad => [.int (gI ι 11 5)]) (rest := [.ref (ad 11)]) (o := 24) C hw (c_X4_placeAt l hr143) k_X4_placeAt wM_X3_71 ⟨⟨rfl, rfl⟩, ⟨Nat.le_of_ble_eq_true rfl, Nat.le_of_ble_eq_true rfl⟩⟩ rfl (by decide) rfl rfl rfl hl rfl (Nat.le_of_ble_eq_true rfl) dX3_read_143 ⟨Nat.zero_le _, Nat.zero_le _⟩ (fun H locs hw => ?_)
            refine a_puti (ty := .int) (σ := aG r143.2) (o := 11) (T := TX3) (N := 7) (ty0 := tyX3) C wU_X3 tyX3_ok nmX3 hw rfl (by decide) rfl 2 (by decide) rfl wF_X3_25 rfl (by decide +kernel) rfl rfl dX3_read_146 (fun H locs hw => ?_)
            have hw : aW D dA ad adV (aG (pI r143.2 11 2 r143.1)) A s H locs := by rw [aG_PI] at hw; exact hw
            refine lv_aload_n hx hb dX3_read_149 rfl (lv_at hl 0 rfl) ?_
            refine a_geti (σ := aG (pI r143.2 11 2 r143.1)) (o := 11) (T := TX3) (N := 7) C wU_X3 hw rfl (by decide) rfl 4 (by decide) rfl wF_X3_36 dX3_read_150 ?_
            refine lv_if_ne (tgt := 174) hx hb dX3_read_153 (by decide) (fun hc => ?_) (fun hc => ?_)
            · replace hM := h_f hc hM
              refine lv_aload_n hx hb dX3_read_174 rfl (lv_at hl 0 rfl) ?_
              refine a_geti (σ := aG (pI r143.2 11 2 r143.1)) (o := 11) (T := TX3) (N := 7) C wU_X3 hw rfl (by decide) rfl 4 (by decide) rfl wF_X3_36 dX3_read_175 ?_
              cases h_e hM
              exact a_iret C hw dX3_read_178
            · replace hM := h_t hc hM
              refine lv_aload_n hx hb dX3_read_156 rfl (lv_at hl 0 rfl) ?_
              refine a_getp (q := 21) (σ := aG (pI r143.2 11 2 r143.1)) (o := 11) (T := TX3) (N := 7) C wU_X3 hw rfl (by decide) rfl 1 (by decide) rfl wF_X3_21 (aG_P rfl rfl) dX3_read_157 ?_
              refine lv_aload_n hx hb dX3_read_160 rfl (lv_at hl 0 rfl) ?_
              refine a_getp (q := 12) (σ := aG (pI r143.2 11 2 r143.1)) (o := 11) (T := TX3) (N := 7) C wU_X3 hw rfl (by decide) rfl 0 (by decide) rfl wF_X3_12 (aG_P rfl rfl) dX3_read_161 ?_
              obtain ⟨r164, hr164, hM⟩ := h_b hM
              refine a_callV (σ' := aG r164) (v := none) (As := fun ad => [.ref (ad 12)]) (rest := []) (o := 21) C hw (c_X1_rate l (lin12) hr164) k_X1_rate wM_X3_75 ⟨⟨rfl, rfl⟩, ⟨Nat.le_of_ble_eq_true rfl, Nat.le_of_ble_eq_true rfl⟩⟩ rfl (by decide) rfl rfl rfl hl rfl (Nat.le_of_ble_eq_true rfl) dX3_read_164 ⟨Nat.zero_le _, Nat.zero_le _⟩ (fun H locs hw => ?_)
              refine lv_aload_n hx hb dX3_read_167 rfl (lv_at hl 0 rfl) ?_
              refine a_getp (q := 12) (σ := aG r164) (o := 11) (T := TX3) (N := 7) C wU_X3 hw rfl (by decide) rfl 0 (by decide) rfl wF_X3_12 (aG_P rfl rfl) dX3_read_168 ?_
              obtain ⟨r171, hr171, hM⟩ := h_b hM
              refine a_callV (σ' := aG r171) (v := none) (As := fun ad => []) (rest := []) (o := 12) C hw (c_X2_showFirst l (lin12) hr171) k_X2_showFirst wM_X3_79 ⟨⟨rfl, rfl⟩, ⟨Nat.le_of_ble_eq_true rfl, Nat.le_of_ble_eq_true rfl⟩⟩ (aLin_k lin12).1 (by decide) rfl rfl rfl hl rfl (Nat.le_of_ble_eq_true rfl) dX3_read_171 ⟨Nat.zero_le _, Nat.zero_le _⟩ (fun H locs hw => ?_)
              refine lv_aload_n hx hb dX3_read_174 rfl (lv_at hl 0 rfl) ?_
              refine a_geti (σ := aG r171) (o := 11) (T := TX3) (N := 7) C wU_X3 hw rfl (by decide) rfl 4 (by decide) rfl wF_X3_36 dX3_read_175 ?_
              cases h_e hM
              exact a_iret C hw dX3_read_178
          · replace hM := h_t hc hM
            refine lv_iconst (v := (-1 : Int32)) hx hb dX3_read_131 (by decide) ?_
            refine lv_goto (tgt := 146) hx hb dX3_read_132 (by decide) ?_
            refine a_puti (ty := .int) (σ := aG ι) (o := 11) (T := TX3) (N := 7) (ty0 := tyX3) C wU_X3 tyX3_ok nmX3 hw rfl (by decide) rfl 2 (by decide) rfl wF_X3_25 rfl (by decide +kernel) rfl rfl dX3_read_146 (fun H locs hw => ?_)
            have hw : aW D dA ad adV (aG (pI ι 11 2 (-1 : Int32))) A s H locs := by rw [aG_PI] at hw; exact hw
            refine lv_aload_n hx hb dX3_read_149 rfl (lv_at hl 0 rfl) ?_
            refine a_geti (σ := aG (pI ι 11 2 (-1 : Int32))) (o := 11) (T := TX3) (N := 7) C wU_X3 hw rfl (by decide) rfl 4 (by decide) rfl wF_X3_36 dX3_read_150 ?_
            refine lv_if_ne (tgt := 174) hx hb dX3_read_153 (by decide) (fun hc => ?_) (fun hc => ?_)
            · replace hM := h_f hc hM
              refine lv_aload_n hx hb dX3_read_174 rfl (lv_at hl 0 rfl) ?_
              refine a_geti (σ := aG (pI ι 11 2 (-1 : Int32))) (o := 11) (T := TX3) (N := 7) C wU_X3 hw rfl (by decide) rfl 4 (by decide) rfl wF_X3_36 dX3_read_175 ?_
              cases h_e hM
              exact a_iret C hw dX3_read_178
            · replace hM := h_t hc hM
              refine lv_aload_n hx hb dX3_read_156 rfl (lv_at hl 0 rfl) ?_
              refine a_getp (q := 21) (σ := aG (pI ι 11 2 (-1 : Int32))) (o := 11) (T := TX3) (N := 7) C wU_X3 hw rfl (by decide) rfl 1 (by decide) rfl wF_X3_21 (aG_P rfl rfl) dX3_read_157 ?_
              refine lv_aload_n hx hb dX3_read_160 rfl (lv_at hl 0 rfl) ?_
              refine a_getp (q := 12) (σ := aG (pI ι 11 2 (-1 : Int32))) (o := 11) (T := TX3) (N := 7) C wU_X3 hw rfl (by decide) rfl 0 (by decide) rfl wF_X3_12 (aG_P rfl rfl) dX3_read_161 ?_
              obtain ⟨r164, hr164, hM⟩ := h_b hM
              refine a_callV (σ' := aG r164) (v := none) (As := fun ad => [.ref (ad 12)]) (rest := []) (o := 21) C hw (c_X1_rate l (lin12) hr164) k_X1_rate wM_X3_75 ⟨⟨rfl, rfl⟩, ⟨Nat.le_of_ble_eq_true rfl, Nat.le_of_ble_eq_true rfl⟩⟩ rfl (by decide) rfl rfl rfl hl rfl (Nat.le_of_ble_eq_true rfl) dX3_read_164 ⟨Nat.zero_le _, Nat.zero_le _⟩ (fun H locs hw => ?_)
              refine lv_aload_n hx hb dX3_read_167 rfl (lv_at hl 0 rfl) ?_
              refine a_getp (q := 12) (σ := aG r164) (o := 11) (T := TX3) (N := 7) C wU_X3 hw rfl (by decide) rfl 0 (by decide) rfl wF_X3_12 (aG_P rfl rfl) dX3_read_168 ?_
              obtain ⟨r171, hr171, hM⟩ := h_b hM
              refine a_callV (σ' := aG r171) (v := none) (As := fun ad => []) (rest := []) (o := 12) C hw (c_X2_showFirst l (lin12) hr171) k_X2_showFirst wM_X3_79 ⟨⟨rfl, rfl⟩, ⟨Nat.le_of_ble_eq_true rfl, Nat.le_of_ble_eq_true rfl⟩⟩ (aLin_k lin12).1 (by decide) rfl rfl rfl hl rfl (Nat.le_of_ble_eq_true rfl) dX3_read_171 ⟨Nat.zero_le _, Nat.zero_le _⟩ (fun H locs hw => ?_)
              refine lv_aload_n hx hb dX3_read_174 rfl (lv_at hl 0 rfl) ?_
              refine a_geti (σ := aG r171) (o := 11) (T := TX3) (N := 7) C wU_X3 hw rfl (by decide) rfl 4 (by decide) rfl wF_X3_36 dX3_read_175 ?_
              cases h_e hM
              exact a_iret C hw dX3_read_178
        · replace hM := h_t hc hM
          refine lv_aload_n hx hb dX3_read_107 rfl (lv_at hl 0 rfl) ?_
          refine a_geti (σ := aG ι) (o := 11) (T := TX3) (N := 7) C wU_X3 hw rfl (by decide) rfl 6 (by decide) rfl wF_X3_42 dX3_read_108 ?_
          refine lv_bipush (v := (16 : Int32)) hx hb dX3_read_111 (by decide) ?_
          refine lv_iand hx hb dX3_read_113 ?_
          refine lv_if_ne (tgt := 123) hx hb dX3_read_114 (by decide) (fun hc => ?_) (fun hc => ?_)
          · replace hM := h_f hc hM
            refine lv_aload_n hx hb dX3_read_123 rfl (lv_at hl 0 rfl) ?_
            refine lv_aload_n hx hb dX3_read_124 rfl (lv_at hl 0 rfl) ?_
            refine a_geti (σ := aG ι) (o := 11) (T := TX3) (N := 7) C wU_X3 hw rfl (by decide) rfl 4 (by decide) rfl wF_X3_36 dX3_read_125 ?_
            refine lv_if_ne (tgt := 135) hx hb dX3_read_128 (by decide) (fun hc => ?_) (fun hc => ?_)
            · replace hM := h_f hc hM
              refine lv_aload_n hx hb dX3_read_135 rfl (lv_at hl 0 rfl) ?_
              refine a_getp (q := 24) (σ := aG ι) (o := 11) (T := TX3) (N := 7) C wU_X3 hw rfl (by decide) rfl 3 (by decide) rfl wF_X3_32 (aG_P rfl rfl) dX3_read_136 ?_
              refine lv_aload_n hx hb dX3_read_139 rfl (lv_at hl 0 rfl) ?_
              refine a_geti (σ := aG ι) (o := 11) (T := TX3) (N := 7) C wU_X3 hw rfl (by decide) rfl 5 (by decide) rfl wF_X3_39 dX3_read_140 ?_
              obtain ⟨r143, hr143, hM⟩ := h_b hM
              refine a_callV (σ' := aG r143.2) (v := (some (.int r143.1))) (As := fun ad => [.int (gI ι 11 5)]) (rest := [.ref (ad 11)]) (o := 24) C hw (c_X4_placeAt l hr143) k_X4_placeAt wM_X3_71 ⟨⟨rfl, rfl⟩, ⟨Nat.le_of_ble_eq_true rfl, Nat.le_of_ble_eq_true rfl⟩⟩ rfl (by decide) rfl rfl rfl hl rfl (Nat.le_of_ble_eq_true rfl) dX3_read_143 ⟨Nat.zero_le _, Nat.zero_le _⟩ (fun H locs hw => ?_)
              refine a_puti (ty := .int) (σ := aG r143.2) (o := 11) (T := TX3) (N := 7) (ty0 := tyX3) C wU_X3 tyX3_ok nmX3 hw rfl (by decide) rfl 2 (by decide) rfl wF_X3_25 rfl (by decide +kernel) rfl rfl dX3_read_146 (fun H locs hw => ?_)
              have hw : aW D dA ad adV (aG (pI r143.2 11 2 r143.1)) A s H locs := by rw [aG_PI] at hw; exact hw
              refine lv_aload_n hx hb dX3_read_149 rfl (lv_at hl 0 rfl) ?_
              refine a_geti (σ := aG (pI r143.2 11 2 r143.1)) (o := 11) (T := TX3) (N := 7) C wU_X3 hw rfl (by decide) rfl 4 (by decide) rfl wF_X3_36 dX3_read_150 ?_
              refine lv_if_ne (tgt := 174) hx hb dX3_read_153 (by decide) (fun hc => ?_) (fun hc => ?_)
              · replace hM := h_f hc hM
                refine lv_aload_n hx hb dX3_read_174 rfl (lv_at hl 0 rfl) ?_
                refine a_geti (σ := aG (pI r143.2 11 2 r143.1)) (o := 11) (T := TX3) (N := 7) C wU_X3 hw rfl (by decide) rfl 4 (by decide) rfl wF_X3_36 dX3_read_175 ?_
                cases h_e hM
                exact a_iret C hw dX3_read_178
              · replace hM := h_t hc hM
                refine lv_aload_n hx hb dX3_read_156 rfl (lv_at hl 0 rfl) ?_
                refine a_getp (q := 21) (σ := aG (pI r143.2 11 2 r143.1)) (o := 11) (T := TX3) (N := 7) C wU_X3 hw rfl (by decide) rfl 1 (by decide) rfl wF_X3_21 (aG_P rfl rfl) dX3_read_157 ?_
                refine lv_aload_n hx hb dX3_read_160 rfl (lv_at hl 0 rfl) ?_
                refine a_getp (q := 12) (σ := aG (pI r143.2 11 2 r143.1)) (o := 11) (T := TX3) (N := 7) C wU_X3 hw rfl (by decide) rfl 0 (by decide) rfl wF_X3_12 (aG_P rfl rfl) dX3_read_161 ?_
                obtain ⟨r164, hr164, hM⟩ := h_b hM
                refine a_callV (σ' := aG r164) (v := none) (As := fun ad => [.ref (ad 12)]) (rest := []) (o := 21) C hw (c_X1_rate l (lin12) hr164) k_X1_rate wM_X3_75 ⟨⟨rfl, rfl⟩, ⟨Nat.le_of_ble_eq_true rfl, Nat.le_of_ble_eq_true rfl⟩⟩ rfl (by decide) rfl rfl rfl hl rfl (Nat.le_of_ble_eq_true rfl) dX3_read_164 ⟨Nat.zero_le _, Nat.zero_le _⟩ (fun H locs hw => ?_)
                refine lv_aload_n hx hb dX3_read_167 rfl (lv_at hl 0 rfl) ?_
                refine a_getp (q := 12) (σ := aG r164) (o := 11) (T := TX3) (N := 7) C wU_X3 hw rfl (by decide) rfl 0 (by decide) rfl wF_X3_12 (aG_P rfl rfl) dX3_read_168 ?_
                obtain ⟨r171, hr171, hM⟩ := h_b hM
                refine a_callV (σ' := aG r171) (v := none) (As := fun ad => []) (rest := []) (o := 12) C hw (c_X2_showFirst l (lin12) hr171) k_X2_showFirst wM_X3_79 ⟨⟨rfl, rfl⟩, ⟨Nat.le_of_ble_eq_true rfl, Nat.le_of_ble_eq_true rfl⟩⟩ (aLin_k lin12).1 (by decide) rfl rfl rfl hl rfl (Nat.le_of_ble_eq_true rfl) dX3_read_171 ⟨Nat.zero_le _, Nat.zero_le _⟩ (fun H locs hw => ?_)
                refine lv_aload_n hx hb dX3_read_174 rfl (lv_at hl 0 rfl) ?_
                refine a_geti (σ := aG r171) (o := 11) (T := TX3) (N := 7) C wU_X3 hw rfl (by decide) rfl 4 (by decide) rfl wF_X3_36 dX3_read_175 ?_
                cases h_e hM
                exact a_iret C hw dX3_read_178
            · replace hM := h_t hc hM
              refine lv_iconst (v := (-1 : Int32)) hx hb dX3_read_131 (by decide) ?_
              refine lv_goto (tgt := 146) hx hb dX3_read_132 (by decide) ?_
              refine a_puti (ty := .int) (σ := aG ι) (o := 11) (T := TX3) (N := 7) (ty0 := tyX3) C wU_X3 tyX3_ok nmX3 hw rfl (by decide) rfl 2 (by decide) rfl wF_X3_25 rfl (by decide +kernel) rfl rfl dX3_read_146 (fun H locs hw => ?_)
              have hw : aW D dA ad adV (aG (pI ι 11 2 (-1 : Int32))) A s H locs := by rw [aG_PI] at hw; exact hw
              refine lv_aload_n hx hb dX3_read_149 rfl (lv_at hl 0 rfl) ?_
              refine a_geti (σ := aG (pI ι 11 2 (-1 : Int32))) (o := 11) (T := TX3) (N := 7) C wU_X3 hw rfl (by decide) rfl 4 (by decide) rfl wF_X3_36 dX3_read_150 ?_
              refine lv_if_ne (tgt := 174) hx hb dX3_read_153 (by decide) (fun hc => ?_) (fun hc => ?_)
              · replace hM := h_f hc hM
                refine lv_aload_n hx hb dX3_read_174 rfl (lv_at hl 0 rfl) ?_
                refine a_geti (σ := aG (pI ι 11 2 (-1 : Int32))) (o := 11) (T := TX3) (N := 7) C wU_X3 hw rfl (by decide) rfl 4 (by decide) rfl wF_X3_36 dX3_read_175 ?_
                cases h_e hM
                exact a_iret C hw dX3_read_178
              · replace hM := h_t hc hM
                refine lv_aload_n hx hb dX3_read_156 rfl (lv_at hl 0 rfl) ?_
                refine a_getp (q := 21) (σ := aG (pI ι 11 2 (-1 : Int32))) (o := 11) (T := TX3) (N := 7) C wU_X3 hw rfl (by decide) rfl 1 (by decide) rfl wF_X3_21 (aG_P rfl rfl) dX3_read_157 ?_
                refine lv_aload_n hx hb dX3_read_160 rfl (lv_at hl 0 rfl) ?_
                refine a_getp (q := 12) (σ := aG (pI ι 11 2 (-1 : Int32))) (o := 11) (T := TX3) (N := 7) C wU_X3 hw rfl (by decide) rfl 0 (by decide) rfl wF_X3_12 (aG_P rfl rfl) dX3_read_161 ?_
                obtain ⟨r164, hr164, hM⟩ := h_b hM
                refine a_callV (σ' := aG r164) (v := none) (As := fun ad => [.ref (ad 12)]) (rest := []) (o := 21) C hw (c_X1_rate l (lin12) hr164) k_X1_rate wM_X3_75 ⟨⟨rfl, rfl⟩, ⟨Nat.le_of_ble_eq_true rfl, Nat.le_of_ble_eq_true rfl⟩⟩ rfl (by decide) rfl rfl rfl hl rfl (Nat.le_of_ble_eq_true rfl) dX3_read_164 ⟨Nat.zero_le _, Nat.zero_le _⟩ (fun H locs hw => ?_)
                refine lv_aload_n hx hb dX3_read_167 rfl (lv_at hl 0 rfl) ?_
                refine a_getp (q := 12) (σ := aG r164) (o := 11) (T := TX3) (N := 7) C wU_X3 hw rfl (by decide) rfl 0 (by decide) rfl wF_X3_12 (aG_P rfl rfl) dX3_read_168 ?_
                obtain ⟨r171, hr171, hM⟩ := h_b hM
                refine a_callV (σ' := aG r171) (v := none) (As := fun ad => []) (rest := []) (o := 12) C hw (c_X2_showFirst l (lin12) hr171) k_X2_showFirst wM_X3_79 ⟨⟨rfl, rfl⟩, ⟨Nat.le_of_ble_eq_true rfl, Nat.le_of_ble_eq_true rfl⟩⟩ (aLin_k lin12).1 (by decide) rfl rfl rfl hl rfl (Nat.le_of_ble_eq_true rfl) dX3_read_171 ⟨Nat.zero_le _, Nat.zero_le _⟩ (fun H locs hw => ?_)
                refine lv_aload_n hx hb dX3_read_174 rfl (lv_at hl 0 rfl) ?_
                refine a_geti (σ := aG r171) (o := 11) (T := TX3) (N := 7) C wU_X3 hw rfl (by decide) rfl 4 (by decide) rfl wF_X3_36 dX3_read_175 ?_
                cases h_e hM
                exact a_iret C hw dX3_read_178
          · replace hM := h_t hc hM
            refine lv_aload_n hx hb dX3_read_117 rfl (lv_at hl 0 rfl) ?_
            refine lv_iconst (v := (5 : Int32)) hx hb dX3_read_118 (by decide) ?_
            obtain ⟨r119, hr119, hM⟩ := h_b hM
            refine a_callV (σ' := aG r119.2) (v := (some (.int r119.1))) (As := fun ad => [.int (5 : Int32)]) (rest := []) (o := 11) C hw (c_X3_fail l hr119) k_X3_fail wM_X3_68 ⟨⟨rfl, rfl⟩, ⟨Nat.le_of_ble_eq_true rfl, Nat.le_of_ble_eq_true rfl⟩⟩ rfl (by decide) rfl rfl rfl hl rfl (Nat.le_of_ble_eq_true rfl) dX3_read_119 ⟨Nat.zero_le _, Nat.zero_le _⟩ (fun H locs hw => ?_)
            refine lv_pop hx hb dX3_read_122 rfl ?_
            refine lv_aload_n hx hb dX3_read_123 rfl (lv_at hl 0 rfl) ?_
            refine lv_aload_n hx hb dX3_read_124 rfl (lv_at hl 0 rfl) ?_
            refine a_geti (σ := aG r119.2) (o := 11) (T := TX3) (N := 7) C wU_X3 hw rfl (by decide) rfl 4 (by decide) rfl wF_X3_36 dX3_read_125 ?_
            refine lv_if_ne (tgt := 135) hx hb dX3_read_128 (by decide) (fun hc => ?_) (fun hc => ?_)
            · replace hM := h_f hc hM
              refine lv_aload_n hx hb dX3_read_135 rfl (lv_at hl 0 rfl) ?_
              refine a_getp (q := 24) (σ := aG r119.2) (o := 11) (T := TX3) (N := 7) C wU_X3 hw rfl (by decide) rfl 3 (by decide) rfl wF_X3_32 (aG_P rfl rfl) dX3_read_136 ?_
              refine lv_aload_n hx hb dX3_read_139 rfl (lv_at hl 0 rfl) ?_
              refine a_geti (σ := aG r119.2) (o := 11) (T := TX3) (N := 7) C wU_X3 hw rfl (by decide) rfl 5 (by decide) rfl wF_X3_39 dX3_read_140 ?_
              obtain ⟨r143, hr143, hM⟩ := h_b hM
              refine a_callV (σ' := aG r143.2) (v := (some (.int r143.1))) (As := fun ad => [.int (gI r119.2 11 5)]) (rest := [.ref (ad 11)]) (o := 24) C hw (c_X4_placeAt l hr143) k_X4_placeAt wM_X3_71 ⟨⟨rfl, rfl⟩, ⟨Nat.le_of_ble_eq_true rfl, Nat.le_of_ble_eq_true rfl⟩⟩ rfl (by decide) rfl rfl rfl hl rfl (Nat.le_of_ble_eq_true rfl) dX3_read_143 ⟨Nat.zero_le _, Nat.zero_le _⟩ (fun H locs hw => ?_)
              refine a_puti (ty := .int) (σ := aG r143.2) (o := 11) (T := TX3) (N := 7) (ty0 := tyX3) C wU_X3 tyX3_ok nmX3 hw rfl (by decide) rfl 2 (by decide) rfl wF_X3_25 rfl (by decide +kernel) rfl rfl dX3_read_146 (fun H locs hw => ?_)
              have hw : aW D dA ad adV (aG (pI r143.2 11 2 r143.1)) A s H locs := by rw [aG_PI] at hw; exact hw
              refine lv_aload_n hx hb dX3_read_149 rfl (lv_at hl 0 rfl) ?_
              refine a_geti (σ := aG (pI r143.2 11 2 r143.1)) (o := 11) (T := TX3) (N := 7) C wU_X3 hw rfl (by decide) rfl 4 (by decide) rfl wF_X3_36 dX3_read_150 ?_
              refine lv_if_ne (tgt := 174) hx hb dX3_read_153 (by decide) (fun hc => ?_) (fun hc => ?_)
              · replace hM := h_f hc hM
                refine lv_aload_n hx hb dX3_read_174 rfl (lv_at hl 0 rfl) ?_
                refine a_geti (σ := aG (pI r143.2 11 2 r143.1)) (o := 11) (T := TX3) (N := 7) C wU_X3 hw rfl (by decide) rfl 4 (by decide) rfl wF_X3_36 dX3_read_175 ?_
                cases h_e hM
                exact a_iret C hw dX3_read_178
              · replace hM := h_t hc hM
                refine lv_aload_n hx hb dX3_read_156 rfl (lv_at hl 0 rfl) ?_
                refine a_getp (q := 21) (σ := aG (pI r143.2 11 2 r143.1)) (o := 11) (T := TX3) (N := 7) C wU_X3 hw rfl (by decide) rfl 1 (by decide) rfl wF_X3_21 (aG_P rfl rfl) dX3_read_157 ?_
                refine lv_aload_n hx hb dX3_read_160 rfl (lv_at hl 0 rfl) ?_
                refine a_getp (q := 12) (σ := aG (pI r143.2 11 2 r143.1)) (o := 11) (T := TX3) (N := 7) C wU_X3 hw rfl (by decide) rfl 0 (by decide) rfl wF_X3_12 (aG_P rfl rfl) dX3_read_161 ?_
                obtain ⟨r164, hr164, hM⟩ := h_b hM
                refine a_callV (σ' := aG r164) (v := none) (As := fun ad => [.ref (ad 12)]) (rest := []) (o := 21) C hw (c_X1_rate l (lin12) hr164) k_X1_rate wM_X3_75 ⟨⟨rfl, rfl⟩, ⟨Nat.le_of_ble_eq_true rfl, Nat.le_of_ble_eq_true rfl⟩⟩ rfl (by decide) rfl rfl rfl hl rfl (Nat.le_of_ble_eq_true rfl) dX3_read_164 ⟨Nat.zero_le _, Nat.zero_le _⟩ (fun H locs hw => ?_)
                refine lv_aload_n hx hb dX3_read_167 rfl (lv_at hl 0 rfl) ?_
                refine a_getp (q := 12) (σ := aG r164) (o := 11) (T := TX3) (N := 7) C wU_X3 hw rfl (by decide) rfl 0 (by decide) rfl wF_X3_12 (aG_P rfl rfl) dX3_read_168 ?_
                obtain ⟨r171, hr171, hM⟩ := h_b hM
                refine a_callV (σ' := aG r171) (v := none) (As := fun ad => []) (rest := []) (o := 12) C hw (c_X2_showFirst l (lin12) hr171) k_X2_showFirst wM_X3_79 ⟨⟨rfl, rfl⟩, ⟨Nat.le_of_ble_eq_true rfl, Nat.le_of_ble_eq_true rfl⟩⟩ (aLin_k lin12).1 (by decide) rfl rfl rfl hl rfl (Nat.le_of_ble_eq_true rfl) dX3_read_171 ⟨Nat.zero_le _, Nat.zero_le _⟩ (fun H locs hw => ?_)
                refine lv_aload_n hx hb dX3_read_174 rfl (lv_at hl 0 rfl) ?_
                refine a_geti (σ := aG r171) (o := 11) (T := TX3) (N := 7) C wU_X3 hw rfl (by decide) rfl 4 (by decide) rfl wF_X3_36 dX3_read_175 ?_
                cases h_e hM
                exact a_iret C hw dX3_read_178
            · replace hM := h_t hc hM
              refine lv_iconst (v := (-1 : Int32)) hx hb dX3_read_131 (by decide) ?_
              refine lv_goto (tgt := 146) hx hb dX3_read_132 (by decide) ?_
              refine a_puti (ty := .int) (σ := aG r119.2) (o := 11) (T := TX3) (N := 7) (ty0 := tyX3) C wU_X3 tyX3_ok nmX3 hw rfl (by decide) rfl 2 (by decide) rfl wF_X3_25 rfl (by decide +kernel) rfl rfl dX3_read_146 (fun H locs hw => ?_)
              have hw : aW D dA ad adV (aG (pI r119.2 11 2 (-1 : Int32))) A s H locs := by rw [aG_PI] at hw; exact hw
              refine lv_aload_n hx hb dX3_read_149 rfl (lv_at hl 0 rfl) ?_
              refine a_geti (σ := aG (pI r119.2 11 2 (-1 : Int32))) (o := 11) (T := TX3) (N := 7) C wU_X3 hw rfl (by decide) rfl 4 (by decide) rfl wF_X3_36 dX3_read_150 ?_
              refine lv_if_ne (tgt := 174) hx hb dX3_read_153 (by decide) (fun hc => ?_) (fun hc => ?_)
              · replace hM := h_f hc hM
                refine lv_aload_n hx hb dX3_read_174 rfl (lv_at hl 0 rfl) ?_
                refine a_geti (σ := aG (pI r119.2 11 2 (-1 : Int32))) (o := 11) (T := TX3) (N := 7) C wU_X3 hw rfl (by decide) rfl 4 (by decide) rfl wF_X3_36 dX3_read_175 ?_
                cases h_e hM
                exact a_iret C hw dX3_read_178
              · replace hM := h_t hc hM
                refine lv_aload_n hx hb dX3_read_156 rfl (lv_at hl 0 rfl) ?_
                refine a_getp (q := 21) (σ := aG (pI r119.2 11 2 (-1 : Int32))) (o := 11) (T := TX3) (N := 7) C wU_X3 hw rfl (by decide) rfl 1 (by decide) rfl wF_X3_21 (aG_P rfl rfl) dX3_read_157 ?_
                refine lv_aload_n hx hb dX3_read_160 rfl (lv_at hl 0 rfl) ?_
                refine a_getp (q := 12) (σ := aG (pI r119.2 11 2 (-1 : Int32))) (o := 11) (T := TX3) (N := 7) C wU_X3 hw rfl (by decide) rfl 0 (by decide) rfl wF_X3_12 (aG_P rfl rfl) dX3_read_161 ?_
                obtain ⟨r164, hr164, hM⟩ := h_b hM
                refine a_callV (σ' := aG r164) (v := none) (As := fun ad => [.ref (ad 12)]) (rest := []) (o := 21) C hw (c_X1_rate l (lin12) hr164) k_X1_rate wM_X3_75 ⟨⟨rfl, rfl⟩, ⟨Nat.le_of_ble_eq_true rfl, Nat.le_of_ble_eq_true rfl⟩⟩ rfl (by decide) rfl rfl rfl hl rfl (Nat.le_of_ble_eq_true rfl) dX3_read_164 ⟨Nat.zero_le _, Nat.zero_le _⟩ (fun H locs hw => ?_)
                refine lv_aload_n hx hb dX3_read_167 rfl (lv_at hl 0 rfl) ?_
                refine a_getp (q := 12) (σ := aG r164) (o := 11) (T := TX3) (N := 7) C wU_X3 hw rfl (by decide) rfl 0 (by decide) rfl wF_X3_12 (aG_P rfl rfl) dX3_read_168 ?_
                obtain ⟨r171, hr171, hM⟩ := h_b hM
                refine a_callV (σ' := aG r171) (v := none) (As := fun ad => []) (rest := []) (o := 12) C hw (c_X2_showFirst l (lin12) hr171) k_X2_showFirst wM_X3_79 ⟨⟨rfl, rfl⟩, ⟨Nat.le_of_ble_eq_true rfl, Nat.le_of_ble_eq_true rfl⟩⟩ (aLin_k lin12).1 (by decide) rfl rfl rfl hl rfl (Nat.le_of_ble_eq_true rfl) dX3_read_171 ⟨Nat.zero_le _, Nat.zero_le _⟩ (fun H locs hw => ?_)
                refine lv_aload_n hx hb dX3_read_174 rfl (lv_at hl 0 rfl) ?_
                refine a_geti (σ := aG r171) (o := 11) (T := TX3) (N := 7) C wU_X3 hw rfl (by decide) rfl 4 (by decide) rfl wF_X3_36 dX3_read_175 ?_
                cases h_e hM
                exact a_iret C hw dX3_read_178
      · replace hM := h_f hc hM
        refine lv_aload_n hx hb dX3_read_58 rfl (lv_at hl 0 rfl) ?_
        refine a_getp (q := 24) (σ := aG ι) (o := 11) (T := TX3) (N := 7) C wU_X3 hw rfl (by decide) rfl 3 (by decide) rfl wF_X3_32 (aG_P rfl rfl) dX3_read_59 ?_
        refine lv_aload_n hx hb dX3_read_62 rfl (lv_at hl 0 rfl) ?_
        refine a_geti (σ := aG ι) (o := 11) (T := TX3) (N := 7) C wU_X3 hw rfl (by decide) rfl 5 (by decide) rfl wF_X3_39 dX3_read_63 ?_
        obtain ⟨r66, hr66, hM⟩ := h_b hM
        refine a_callV (σ' := aG r66.2) (v := (some (.int r66.1))) (As := fun ad => [.int (gI ι 11 5)]) (rest := []) (o := 24) C hw (c_X4_isEnd l hr66) k_X4_isEnd wM_X3_57 ⟨⟨rfl, rfl⟩, ⟨Nat.le_of_ble_eq_true rfl, Nat.le_of_ble_eq_true rfl⟩⟩ rfl (by decide) rfl rfl rfl hl rfl (Nat.le_of_ble_eq_true rfl) dX3_read_66 ⟨Nat.zero_le _, Nat.zero_le _⟩ (fun H locs hw => ?_)
        refine lv_if_ne (tgt := 100) hx hb dX3_read_69 (by decide) (fun hc => ?_) (fun hc => ?_)
        · replace hM := h_f hc hM
          refine lv_aload_n hx hb dX3_read_100 rfl (lv_at hl 0 rfl) ?_
          refine a_geti (σ := aG r66.2) (o := 11) (T := TX3) (N := 7) C wU_X3 hw rfl (by decide) rfl 4 (by decide) rfl wF_X3_36 dX3_read_101 ?_
          refine lv_if_ne (tgt := 123) hx hb dX3_read_104 (by decide) (fun hc => ?_) (fun hc => ?_)
          · replace hM := h_f hc hM
            refine lv_aload_n hx hb dX3_read_123 rfl (lv_at hl 0 rfl) ?_
            refine lv_aload_n hx hb dX3_read_124 rfl (lv_at hl 0 rfl) ?_
            refine a_geti (σ := aG r66.2) (o := 11) (T := TX3) (N := 7) C wU_X3 hw rfl (by decide) rfl 4 (by decide) rfl wF_X3_36 dX3_read_125 ?_
            refine lv_if_ne (tgt := 135) hx hb dX3_read_128 (by decide) (fun hc => ?_) (fun hc => ?_)
            · replace hM := h_f hc hM
              refine lv_aload_n hx hb dX3_read_135 rfl (lv_at hl 0 rfl) ?_
              refine a_getp (q := 24) (σ := aG r66.2) (o := 11) (T := TX3) (N := 7) C wU_X3 hw rfl (by decide) rfl 3 (by decide) rfl wF_X3_32 (aG_P rfl rfl) dX3_read_136 ?_
              refine lv_aload_n hx hb dX3_read_139 rfl (lv_at hl 0 rfl) ?_
              refine a_geti (σ := aG r66.2) (o := 11) (T := TX3) (N := 7) C wU_X3 hw rfl (by decide) rfl 5 (by decide) rfl wF_X3_39 dX3_read_140 ?_
              obtain ⟨r143, hr143, hM⟩ := h_b hM
              refine a_callV (σ' := aG r143.2) (v := (some (.int r143.1))) (As := fun ad => [.int (gI r66.2 11 5)]) (rest := [.ref (ad 11)]) (o := 24) C hw (c_X4_placeAt l hr143) k_X4_placeAt wM_X3_71 ⟨⟨rfl, rfl⟩, ⟨Nat.le_of_ble_eq_true rfl, Nat.le_of_ble_eq_true rfl⟩⟩ rfl (by decide) rfl rfl rfl hl rfl (Nat.le_of_ble_eq_true rfl) dX3_read_143 ⟨Nat.zero_le _, Nat.zero_le _⟩ (fun H locs hw => ?_)
              refine a_puti (ty := .int) (σ := aG r143.2) (o := 11) (T := TX3) (N := 7) (ty0 := tyX3) C wU_X3 tyX3_ok nmX3 hw rfl (by decide) rfl 2 (by decide) rfl wF_X3_25 rfl (by decide +kernel) rfl rfl dX3_read_146 (fun H locs hw => ?_)
              have hw : aW D dA ad adV (aG (pI r143.2 11 2 r143.1)) A s H locs := by rw [aG_PI] at hw; exact hw
              refine lv_aload_n hx hb dX3_read_149 rfl (lv_at hl 0 rfl) ?_
              refine a_geti (σ := aG (pI r143.2 11 2 r143.1)) (o := 11) (T := TX3) (N := 7) C wU_X3 hw rfl (by decide) rfl 4 (by decide) rfl wF_X3_36 dX3_read_150 ?_
              refine lv_if_ne (tgt := 174) hx hb dX3_read_153 (by decide) (fun hc => ?_) (fun hc => ?_)
              · replace hM := h_f hc hM
                refine lv_aload_n hx hb dX3_read_174 rfl (lv_at hl 0 rfl) ?_
                refine a_geti (σ := aG (pI r143.2 11 2 r143.1)) (o := 11) (T := TX3) (N := 7) C wU_X3 hw rfl (by decide) rfl 4 (by decide) rfl wF_X3_36 dX3_read_175 ?_
                cases h_e hM
                exact a_iret C hw dX3_read_178
              · replace hM := h_t hc hM
                refine lv_aload_n hx hb dX3_read_156 rfl (lv_at hl 0 rfl) ?_
                refine a_getp (q := 21) (σ := aG (pI r143.2 11 2 r143.1)) (o := 11) (T := TX3) (N := 7) C wU_X3 hw rfl (by decide) rfl 1 (by decide) rfl wF_X3_21 (aG_P rfl rfl) dX3_read_157 ?_
                refine lv_aload_n hx hb dX3_read_160 rfl (lv_at hl 0 rfl) ?_
                refine a_getp (q := 12) (σ := aG (pI r143.2 11 2 r143.1)) (o := 11) (T := TX3) (N := 7) C wU_X3 hw rfl (by decide) rfl 0 (by decide) rfl wF_X3_12 (aG_P rfl rfl) dX3_read_161 ?_
                obtain ⟨r164, hr164, hM⟩ := h_b hM
                refine a_callV (σ' := aG r164) (v := none) (As := fun ad => [.ref (ad 12)]) (rest := []) (o := 21) C hw (c_X1_rate l (lin12) hr164) k_X1_rate wM_X3_75 ⟨⟨rfl, rfl⟩, ⟨Nat.le_of_ble_eq_true rfl, Nat.le_of_ble_eq_true rfl⟩⟩ rfl (by decide) rfl rfl rfl hl rfl (Nat.le_of_ble_eq_true rfl) dX3_read_164 ⟨Nat.zero_le _, Nat.zero_le _⟩ (fun H locs hw => ?_)
                refine lv_aload_n hx hb dX3_read_167 rfl (lv_at hl 0 rfl) ?_
                refine a_getp (q := 12) (σ := aG r164) (o := 11) (T := TX3) (N := 7) C wU_X3 hw rfl (by decide) rfl 0 (by decide) rfl wF_X3_12 (aG_P rfl rfl) dX3_read_168 ?_
                obtain ⟨r171, hr171, hM⟩ := h_b hM
                refine a_callV (σ' := aG r171) (v := none) (As := fun ad => []) (rest := []) (o := 12) C hw (c_X2_showFirst l (lin12) hr171) k_X2_showFirst wM_X3_79 ⟨⟨rfl, rfl⟩, ⟨Nat.le_of_ble_eq_true rfl, Nat.le_of_ble_eq_true rfl⟩⟩ (aLin_k lin12).1 (by decide) rfl rfl rfl hl rfl (Nat.le_of_ble_eq_true rfl) dX3_read_171 ⟨Nat.zero_le _, Nat.zero_le _⟩ (fun H locs hw => ?_)
                refine lv_aload_n hx hb dX3_read_174 rfl (lv_at hl 0 rfl) ?_
                refine a_geti (σ := aG r171) (o := 11) (T := TX3) (N := 7) C wU_X3 hw rfl (by decide) rfl 4 (by decide) rfl wF_X3_36 dX3_read_175 ?_
                cases h_e hM
                exact a_iret C hw dX3_read_178
            · replace hM := h_t hc hM
              refine lv_iconst (v := (-1 : Int32)) hx hb dX3_read_131 (by decide) ?_
              refine lv_goto (tgt := 146) hx hb dX3_read_132 (by decide) ?_
              refine a_puti (ty := .int) (σ := aG r66.2) (o := 11) (T := TX3) (N := 7) (ty0 := tyX3) C wU_X3 tyX3_ok nmX3 hw rfl (by decide) rfl 2 (by decide) rfl wF_X3_25 rfl (by decide +kernel) rfl rfl dX3_read_146 (fun H locs hw => ?_)
              have hw : aW D dA ad adV (aG (pI r66.2 11 2 (-1 : Int32))) A s H locs := by rw [aG_PI] at hw; exact hw
              refine lv_aload_n hx hb dX3_read_149 rfl (lv_at hl 0 rfl) ?_
              refine a_geti (σ := aG (pI r66.2 11 2 (-1 : Int32))) (o := 11) (T := TX3) (N := 7) C wU_X3 hw rfl (by decide) rfl 4 (by decide) rfl wF_X3_36 dX3_read_150 ?_
              refine lv_if_ne (tgt := 174) hx hb dX3_read_153 (by decide) (fun hc => ?_) (fun hc => ?_)
              · replace hM := h_f hc hM
                refine lv_aload_n hx hb dX3_read_174 rfl (lv_at hl 0 rfl) ?_
                refine a_geti (σ := aG (pI r66.2 11 2 (-1 : Int32))) (o := 11) (T := TX3) (N := 7) C wU_X3 hw rfl (by decide) rfl 4 (by decide) rfl wF_X3_36 dX3_read_175 ?_
                cases h_e hM
                exact a_iret C hw dX3_read_178
              · replace hM := h_t hc hM
                refine lv_aload_n hx hb dX3_read_156 rfl (lv_at hl 0 rfl) ?_
                refine a_getp (q := 21) (σ := aG (pI r66.2 11 2 (-1 : Int32))) (o := 11) (T := TX3) (N := 7) C wU_X3 hw rfl (by decide) rfl 1 (by decide) rfl wF_X3_21 (aG_P rfl rfl) dX3_read_157 ?_
                refine lv_aload_n hx hb dX3_read_160 rfl (lv_at hl 0 rfl) ?_
                refine a_getp (q := 12) (σ := aG (pI r66.2 11 2 (-1 : Int32))) (o := 11) (T := TX3) (N := 7) C wU_X3 hw rfl (by decide) rfl 0 (by decide) rfl wF_X3_12 (aG_P rfl rfl) dX3_read_161 ?_
                obtain ⟨r164, hr164, hM⟩ := h_b hM
                refine a_callV (σ' := aG r164) (v := none) (As := fun ad => [.ref (ad 12)]) (rest := []) (o := 21) C hw (c_X1_rate l (lin12) hr164) k_X1_rate wM_X3_75 ⟨⟨rfl, rfl⟩, ⟨Nat.le_of_ble_eq_true rfl, Nat.le_of_ble_eq_true rfl⟩⟩ rfl (by decide) rfl rfl rfl hl rfl (Nat.le_of_ble_eq_true rfl) dX3_read_164 ⟨Nat.zero_le _, Nat.zero_le _⟩ (fun H locs hw => ?_)
                refine lv_aload_n hx hb dX3_read_167 rfl (lv_at hl 0 rfl) ?_
                refine a_getp (q := 12) (σ := aG r164) (o := 11) (T := TX3) (N := 7) C wU_X3 hw rfl (by decide) rfl 0 (by decide) rfl wF_X3_12 (aG_P rfl rfl) dX3_read_168 ?_
                obtain ⟨r171, hr171, hM⟩ := h_b hM
                refine a_callV (σ' := aG r171) (v := none) (As := fun ad => []) (rest := []) (o := 12) C hw (c_X2_showFirst l (lin12) hr171) k_X2_showFirst wM_X3_79 ⟨⟨rfl, rfl⟩, ⟨Nat.le_of_ble_eq_true rfl, Nat.le_of_ble_eq_true rfl⟩⟩ (aLin_k lin12).1 (by decide) rfl rfl rfl hl rfl (Nat.le_of_ble_eq_true rfl) dX3_read_171 ⟨Nat.zero_le _, Nat.zero_le _⟩ (fun H locs hw => ?_)
                refine lv_aload_n hx hb dX3_read_174 rfl (lv_at hl 0 rfl) ?_
                refine a_geti (σ := aG r171) (o := 11) (T := TX3) (N := 7) C wU_X3 hw rfl (by decide) rfl 4 (by decide) rfl wF_X3_36 dX3_read_175 ?_
                cases h_e hM
                exact a_iret C hw dX3_read_178
          · replace hM := h_t hc hM
            refine lv_aload_n hx hb dX3_read_107 rfl (lv_at hl 0 rfl) ?_
            refine a_geti (σ := aG r66.2) (o := 11) (T := TX3) (N := 7) C wU_X3 hw rfl (by decide) rfl 6 (by decide) rfl wF_X3_42 dX3_read_108 ?_
            refine lv_bipush (v := (16 : Int32)) hx hb dX3_read_111 (by decide) ?_
            refine lv_iand hx hb dX3_read_113 ?_
            refine lv_if_ne (tgt := 123) hx hb dX3_read_114 (by decide) (fun hc => ?_) (fun hc => ?_)
            · replace hM := h_f hc hM
              refine lv_aload_n hx hb dX3_read_123 rfl (lv_at hl 0 rfl) ?_
              refine lv_aload_n hx hb dX3_read_124 rfl (lv_at hl 0 rfl) ?_
              refine a_geti (σ := aG r66.2) (o := 11) (T := TX3) (N := 7) C wU_X3 hw rfl (by decide) rfl 4 (by decide) rfl wF_X3_36 dX3_read_125 ?_
              refine lv_if_ne (tgt := 135) hx hb dX3_read_128 (by decide) (fun hc => ?_) (fun hc => ?_)
              · replace hM := h_f hc hM
                refine lv_aload_n hx hb dX3_read_135 rfl (lv_at hl 0 rfl) ?_
                refine a_getp (q := 24) (σ := aG r66.2) (o := 11) (T := TX3) (N := 7) C wU_X3 hw rfl (by decide) rfl 3 (by decide) rfl wF_X3_32 (aG_P rfl rfl) dX3_read_136 ?_
                refine lv_aload_n hx hb dX3_read_139 rfl (lv_at hl 0 rfl) ?_
                refine a_geti (σ := aG r66.2) (o := 11) (T := TX3) (N := 7) C wU_X3 hw rfl (by decide) rfl 5 (by decide) rfl wF_X3_39 dX3_read_140 ?_
                obtain ⟨r143, hr143, hM⟩ := h_b hM
                refine a_callV (σ' := aG r143.2) (v := (some (.int r143.1))) (As := fun ad => [.int (gI r66.2 11 5)]) (rest := [.ref (ad 11)]) (o := 24) C hw (c_X4_placeAt l hr143) k_X4_placeAt wM_X3_71 ⟨⟨rfl, rfl⟩, ⟨Nat.le_of_ble_eq_true rfl, Nat.le_of_ble_eq_true rfl⟩⟩ rfl (by decide) rfl rfl rfl hl rfl (Nat.le_of_ble_eq_true rfl) dX3_read_143 ⟨Nat.zero_le _, Nat.zero_le _⟩ (fun H locs hw => ?_)
                refine a_puti (ty := .int) (σ := aG r143.2) (o := 11) (T := TX3) (N := 7) (ty0 := tyX3) C wU_X3 tyX3_ok nmX3 hw rfl (by decide) rfl 2 (by decide) rfl wF_X3_25 rfl (by decide +kernel) rfl rfl dX3_read_146 (fun H locs hw => ?_)
                have hw : aW D dA ad adV (aG (pI r143.2 11 2 r143.1)) A s H locs := by rw [aG_PI] at hw; exact hw
                refine lv_aload_n hx hb dX3_read_149 rfl (lv_at hl 0 rfl) ?_
                refine a_geti (σ := aG (pI r143.2 11 2 r143.1)) (o := 11) (T := TX3) (N := 7) C wU_X3 hw rfl (by decide) rfl 4 (by decide) rfl wF_X3_36 dX3_read_150 ?_
                refine lv_if_ne (tgt := 174) hx hb dX3_read_153 (by decide) (fun hc => ?_) (fun hc => ?_)
                · replace hM := h_f hc hM
                  refine lv_aload_n hx hb dX3_read_174 rfl (lv_at hl 0 rfl) ?_
                  refine a_geti (σ := aG (pI r143.2 11 2 r143.1)) (o := 11) (T := TX3) (N := 7) C wU_X3 hw rfl (by decide) rfl 4 (by decide) rfl wF_X3_36 dX3_read_175 ?_
                  cases h_e hM
                  exact a_iret C hw dX3_read_178
                · replace hM := h_t hc hM
                  refine lv_aload_n hx hb dX3_read_156 rfl (lv_at hl 0 rfl) ?_
                  refine a_getp (q := 21) (σ := aG (pI r143.2 11 2 r143.1)) (o := 11) (T := TX3) (N := 7) C wU_X3 hw rfl (by decide) rfl 1 (by decide) rfl wF_X3_21 (aG_P rfl rfl) dX3_read_157 ?_
                  refine lv_aload_n hx hb dX3_read_160 rfl (lv_at hl 0 rfl) ?_
                  refine a_getp (q := 12) (σ := aG (pI r143.2 11 2 r143.1)) (o := 11) (T := TX3) (N := 7) C wU_X3 hw rfl (by decide) rfl 0 (by decide) rfl wF_X3_12 (aG_P rfl rfl) dX3_read_161 ?_
                  obtain ⟨r164, hr164, hM⟩ := h_b hM
                  refine a_callV (σ' := aG r164) (v := none) (As := fun ad => [.ref (ad 12)]) (rest := []) (o := 21) C hw (c_X1_rate l (lin12) hr164) k_X1_rate wM_X3_75 ⟨⟨rfl, rfl⟩, ⟨Nat.le_of_ble_eq_true rfl, Nat.le_of_ble_eq_true rfl⟩⟩ rfl (by decide) rfl rfl rfl hl rfl (Nat.le_of_ble_eq_true rfl) dX3_read_164 ⟨Nat.zero_le _, Nat.zero_le _⟩ (fun H locs hw => ?_)
                  refine lv_aload_n hx hb dX3_read_167 rfl (lv_at hl 0 rfl) ?_
                  refine a_getp (q := 12) (σ := aG r164) (o := 11) (T := TX3) (N := 7) C wU_X3 hw rfl (by decide) rfl 0 (by decide) rfl wF_X3_12 (aG_P rfl rfl) dX3_read_168 ?_
                  obtain ⟨r171, hr171, hM⟩ := h_b hM
                  refine a_callV (σ' := aG r171) (v := none) (As := fun ad => []) (rest := []) (o := 12) C hw (c_X2_showFirst l (lin12) hr171) k_X2_showFirst wM_X3_79 ⟨⟨rfl, rfl⟩, ⟨Nat.le_of_ble_eq_true rfl, Nat.le_of_ble_eq_true rfl⟩⟩ (aLin_k lin12).1 (by decide) rfl rfl rfl hl rfl (Nat.le_of_ble_eq_true rfl) dX3_read_171 ⟨Nat.zero_le _, Nat.zero_le _⟩ (fun H locs hw => ?_)
                  refine lv_aload_n hx hb dX3_read_174 rfl (lv_at hl 0 rfl) ?_
                  refine a_geti (σ := aG r171) (o := 11) (T := TX3) (N := 7) C wU_X3 hw rfl (by decide) rfl 4 (by decide) rfl wF_X3_36 dX3_read_175 ?_
                  cases h_e hM
                  exact a_iret C hw dX3_read_178
              · replace hM := h_t hc hM
                refine lv_iconst (v := (-1 : Int32)) hx hb dX3_read_131 (by decide) ?_
                refine lv_goto (tgt := 146) hx hb dX3_read_132 (by decide) ?_
                refine a_puti (ty := .int) (σ := aG r66.2) (o := 11) (T := TX3) (N := 7) (ty0 := tyX3) C wU_X3 tyX3_ok nmX3 hw rfl (by decide) rfl 2 (by decide) rfl wF_X3_25 rfl (by decide +kernel) rfl rfl dX3_read_146 (fun H locs hw => ?_)
                have hw : aW D dA ad adV (aG (pI r66.2 11 2 (-1 : Int32))) A s H locs := by rw [aG_PI] at hw; exact hw
                refine lv_aload_n hx hb dX3_read_149 rfl (lv_at hl 0 rfl) ?_
                refine a_geti (σ := aG (pI r66.2 11 2 (-1 : Int32))) (o := 11) (T := TX3) (N := 7) C wU_X3 hw rfl (by decide) rfl 4 (by decide) rfl wF_X3_36 dX3_read_150 ?_
                refine lv_if_ne (tgt := 174) hx hb dX3_read_153 (by decide) (fun hc => ?_) (fun hc => ?_)
                · replace hM := h_f hc hM
                  refine lv_aload_n hx hb dX3_read_174 rfl (lv_at hl 0 rfl) ?_
                  refine a_geti (σ := aG (pI r66.2 11 2 (-1 : Int32))) (o := 11) (T := TX3) (N := 7) C wU_X3 hw rfl (by decide) rfl 4 (by decide) rfl wF_X3_36 dX3_read_175 ?_
                  cases h_e hM
                  exact a_iret C hw dX3_read_178
                · replace hM := h_t hc hM
                  refine lv_aload_n hx hb dX3_read_156 rfl (lv_at hl 0 rfl) ?_
                  refine a_getp (q := 21) (σ := aG (pI r66.2 11 2 (-1 : Int32))) (o := 11) (T := TX3) (N := 7) C wU_X3 hw rfl (by decide) rfl 1 (by decide) rfl wF_X3_21 (aG_P rfl rfl) dX3_read_157 ?_
                  refine lv_aload_n hx hb dX3_read_160 rfl (lv_at hl 0 rfl) ?_
                  refine a_getp (q := 12) (σ := aG (pI r66.2 11 2 (-1 : Int32))) (o := 11) (T := TX3) (N := 7) C wU_X3 hw rfl (by decide) rfl 0 (by decide) rfl wF_X3_12 (aG_P rfl rfl) dX3_read_161 ?_
                  obtain ⟨r164, hr164, hM⟩ := h_b hM
                  refine a_callV (σ' := aG r164) (v := none) (As := fun ad => [.ref (ad 12)]) (rest := []) (o := 21) C hw (c_X1_rate l (lin12) hr164) k_X1_rate wM_X3_75 ⟨⟨rfl, rfl⟩, ⟨Nat.le_of_ble_eq_true rfl, Nat.le_of_ble_eq_true rfl⟩⟩ rfl (by decide) rfl rfl rfl hl rfl (Nat.le_of_ble_eq_true rfl) dX3_read_164 ⟨Nat.zero_le _, Nat.zero_le _⟩ (fun H locs hw => ?_)
                  refine lv_aload_n hx hb dX3_read_167 rfl (lv_at hl 0 rfl) ?_
                  refine a_getp (q := 12) (σ := aG r164) (o := 11) (T := TX3) (N := 7) C wU_X3 hw rfl (by decide) rfl 0 (by decide) rfl wF_X3_12 (aG_P rfl rfl) dX3_read_168 ?_
                  obtain ⟨r171, hr171, hM⟩ := h_b hM
                  refine a_callV (σ' := aG r171) (v := none) (As := fun ad => []) (rest := []) (o := 12) C hw (c_X2_showFirst l (lin12) hr171) k_X2_showFirst wM_X3_79 ⟨⟨rfl, rfl⟩, ⟨Nat.le_of_ble_eq_true rfl, Nat.le_of_ble_eq_true rfl⟩⟩ (aLin_k lin12).1 (by decide) rfl rfl rfl hl rfl (Nat.le_of_ble_eq_true rfl) dX3_read_171 ⟨Nat.zero_le _, Nat.zero_le _⟩ (fun H locs hw => ?_)
                  refine lv_aload_n hx hb dX3_read_174 rfl (lv_at hl 0 rfl) ?_
                  refine a_geti (σ := aG r171) (o := 11) (T := TX3) (N := 7) C wU_X3 hw rfl (by decide) rfl 4 (by decide) rfl wF_X3_36 dX3_read_175 ?_
                  cases h_e hM
                  exact a_iret C hw dX3_read_178
            · replace hM := h_t hc hM
              refine lv_aload_n hx hb dX3_read_117 rfl (lv_at hl 0 rfl) ?_
              refine lv_iconst (v := (5 : Int32)) hx hb dX3_read_118 (by decide) ?_
              obtain ⟨r119, hr119, hM⟩ := h_b hM
              refine a_callV (σ' := aG r119.2) (v := (some (.int r119.1))) (As := fun ad => [.int (5 : Int32)]) (rest := []) (o := 11) C hw (c_X3_fail l hr119) k_X3_fail wM_X3_68 ⟨⟨rfl, rfl⟩, ⟨Nat.le_of_ble_eq_true rfl, Nat.le_of_ble_eq_true rfl⟩⟩ rfl (by decide) rfl rfl rfl hl rfl (Nat.le_of_ble_eq_true rfl) dX3_read_119 ⟨Nat.zero_le _, Nat.zero_le _⟩ (fun H locs hw => ?_)
              refine lv_pop hx hb dX3_read_122 rfl ?_
              refine lv_aload_n hx hb dX3_read_123 rfl (lv_at hl 0 rfl) ?_
              refine lv_aload_n hx hb dX3_read_124 rfl (lv_at hl 0 rfl) ?_
              refine a_geti (σ := aG r119.2) (o := 11) (T := TX3) (N := 7) C wU_X3 hw rfl (by decide) rfl 4 (by decide) rfl wF_X3_36 dX3_read_125 ?_
              refine lv_if_ne (tgt := 135) hx hb dX3_read_128 (by decide) (fun hc => ?_) (fun hc => ?_)
              · replace hM := h_f hc hM
                refine lv_aload_n hx hb dX3_read_135 rfl (lv_at hl 0 rfl) ?_
                refine a_getp (q := 24) (σ := aG r119.2) (o := 11) (T := TX3) (N := 7) C wU_X3 hw rfl (by decide) rfl 3 (by decide) rfl wF_X3_32 (aG_P rfl rfl) dX3_read_136 ?_
                refine lv_aload_n hx hb dX3_read_139 rfl (lv_at hl 0 rfl) ?_
                refine a_geti (σ := aG r119.2) (o := 11) (T := TX3) (N := 7) C wU_X3 hw rfl (by decide) rfl 5 (by decide) rfl wF_X3_39 dX3_read_140 ?_
                obtain ⟨r143, hr143, hM⟩ := h_b hM
                refine a_callV (σ' := aG r143.2) (v := (some (.int r143.1))) (As := fun ad => [.int (gI r119.2 11 5)]) (rest := [.ref (ad 11)]) (o := 24) C hw (c_X4_placeAt l hr143) k_X4_placeAt wM_X3_71 ⟨⟨rfl, rfl⟩, ⟨Nat.le_of_ble_eq_true rfl, Nat.le_of_ble_eq_true rfl⟩⟩ rfl (by decide) rfl rfl rfl hl rfl (Nat.le_of_ble_eq_true rfl) dX3_read_143 ⟨Nat.zero_le _, Nat.zero_le _⟩ (fun H locs hw => ?_)
                refine a_puti (ty := .int) (σ := aG r143.2) (o := 11) (T := TX3) (N := 7) (ty0 := tyX3) C wU_X3 tyX3_ok nmX3 hw rfl (by decide) rfl 2 (by decide) rfl wF_X3_25 rfl (by decide +kernel) rfl rfl dX3_read_146 (fun H locs hw => ?_)
                have hw : aW D dA ad adV (aG (pI r143.2 11 2 r143.1)) A s H locs := by rw [aG_PI] at hw; exact hw
                refine lv_aload_n hx hb dX3_read_149 rfl (lv_at hl 0 rfl) ?_
                refine a_geti (σ := aG (pI r143.2 11 2 r143.1)) (o := 11) (T := TX3) (N := 7) C wU_X3 hw rfl (by decide) rfl 4 (by decide) rfl wF_X3_36 dX3_read_150 ?_
                refine lv_if_ne (tgt := 174) hx hb dX3_read_153 (by decide) (fun hc => ?_) (fun hc => ?_)
                · replace hM := h_f hc hM
                  refine lv_aload_n hx hb dX3_read_174 rfl (lv_at hl 0 rfl) ?_
                  refine a_geti (σ := aG (pI r143.2 11 2 r143.1)) (o := 11) (T := TX3) (N := 7) C wU_X3 hw rfl (by decide) rfl 4 (by decide) rfl wF_X3_36 dX3_read_175 ?_
                  cases h_e hM
                  exact a_iret C hw dX3_read_178
                · replace hM := h_t hc hM
                  refine lv_aload_n hx hb dX3_read_156 rfl (lv_at hl 0 rfl) ?_
                  refine a_getp (q := 21) (σ := aG (pI r143.2 11 2 r143.1)) (o := 11) (T := TX3) (N := 7) C wU_X3 hw rfl (by decide) rfl 1 (by decide) rfl wF_X3_21 (aG_P rfl rfl) dX3_read_157 ?_
                  refine lv_aload_n hx hb dX3_read_160 rfl (lv_at hl 0 rfl) ?_
                  refine a_getp (q := 12) (σ := aG (pI r143.2 11 2 r143.1)) (o := 11) (T := TX3) (N := 7) C wU_X3 hw rfl (by decide) rfl 0 (by decide) rfl wF_X3_12 (aG_P rfl rfl) dX3_read_161 ?_
                  obtain ⟨r164, hr164, hM⟩ := h_b hM
                  refine a_callV (σ' := aG r164) (v := none) (As := fun ad => [.ref (ad 12)]) (rest := []) (o := 21) C hw (c_X1_rate l (lin12) hr164) k_X1_rate wM_X3_75 ⟨⟨rfl, rfl⟩, ⟨Nat.le_of_ble_eq_true rfl, Nat.le_of_ble_eq_true rfl⟩⟩ rfl (by decide) rfl rfl rfl hl rfl (Nat.le_of_ble_eq_true rfl) dX3_read_164 ⟨Nat.zero_le _, Nat.zero_le _⟩ (fun H locs hw => ?_)
                  refine lv_aload_n hx hb dX3_read_167 rfl (lv_at hl 0 rfl) ?_
                  refine a_getp (q := 12) (σ := aG r164) (o := 11) (T := TX3) (N := 7) C wU_X3 hw rfl (by decide) rfl 0 (by decide) rfl wF_X3_12 (aG_P rfl rfl) dX3_read_168 ?_
                  obtain ⟨r171, hr171, hM⟩ := h_b hM
                  refine a_callV (σ' := aG r171) (v := none) (As := fun ad => []) (rest := []) (o := 12) C hw (c_X2_showFirst l (lin12) hr171) k_X2_showFirst wM_X3_79 ⟨⟨rfl, rfl⟩, ⟨Nat.le_of_ble_eq_true rfl, Nat.le_of_ble_eq_true rfl⟩⟩ (aLin_k lin12).1 (by decide) rfl rfl rfl hl rfl (Nat.le_of_ble_eq_true rfl) dX3_read_171 ⟨Nat.zero_le _, Nat.zero_le _⟩ (fun H locs hw => ?_)
                  refine lv_aload_n hx hb dX3_read_174 rfl (lv_at hl 0 rfl) ?_
                  refine a_geti (σ := aG r171) (o := 11) (T := TX3) (N := 7) C wU_X3 hw rfl (by decide) rfl 4 (by decide) rfl wF_X3_36 dX3_read_175 ?_
                  cases h_e hM
                  exact a_iret C hw dX3_read_178
              · replace hM := h_t hc hM
                refine lv_iconst (v := (-1 : Int32)) hx hb dX3_read_131 (by decide) ?_
                refine lv_goto (tgt := 146) hx hb dX3_read_132 (by decide) ?_
                refine a_puti (ty := .int) (σ := aG r119.2) (o := 11) (T := TX3) (N := 7) (ty0 := tyX3) C wU_X3 tyX3_ok nmX3 hw rfl (by decide) rfl 2 (by decide) rfl wF_X3_25 rfl (by decide +kernel) rfl rfl dX3_read_146 (fun H locs hw => ?_)
                have hw : aW D dA ad adV (aG (pI r119.2 11 2 (-1 : Int32))) A s H locs := by rw [aG_PI] at hw; exact hw
                refine lv_aload_n hx hb dX3_read_149 rfl (lv_at hl 0 rfl) ?_
                refine a_geti (σ := aG (pI r119.2 11 2 (-1 : Int32))) (o := 11) (T := TX3) (N := 7) C wU_X3 hw rfl (by decide) rfl 4 (by decide) rfl wF_X3_36 dX3_read_150 ?_
                refine lv_if_ne (tgt := 174) hx hb dX3_read_153 (by decide) (fun hc => ?_) (fun hc => ?_)
                · replace hM := h_f hc hM
                  refine lv_aload_n hx hb dX3_read_174 rfl (lv_at hl 0 rfl) ?_
                  refine a_geti (σ := aG (pI r119.2 11 2 (-1 : Int32))) (o := 11) (T := TX3) (N := 7) C wU_X3 hw rfl (by decide) rfl 4 (by decide) rfl wF_X3_36 dX3_read_175 ?_
                  cases h_e hM
                  exact a_iret C hw dX3_read_178
                · replace hM := h_t hc hM
                  refine lv_aload_n hx hb dX3_read_156 rfl (lv_at hl 0 rfl) ?_
                  refine a_getp (q := 21) (σ := aG (pI r119.2 11 2 (-1 : Int32))) (o := 11) (T := TX3) (N := 7) C wU_X3 hw rfl (by decide) rfl 1 (by decide) rfl wF_X3_21 (aG_P rfl rfl) dX3_read_157 ?_
                  refine lv_aload_n hx hb dX3_read_160 rfl (lv_at hl 0 rfl) ?_
                  refine a_getp (q := 12) (σ := aG (pI r119.2 11 2 (-1 : Int32))) (o := 11) (T := TX3) (N := 7) C wU_X3 hw rfl (by decide) rfl 0 (by decide) rfl wF_X3_12 (aG_P rfl rfl) dX3_read_161 ?_
                  obtain ⟨r164, hr164, hM⟩ := h_b hM
                  refine a_callV (σ' := aG r164) (v := none) (As := fun ad => [.ref (ad 12)]) (rest := []) (o := 21) C hw (c_X1_rate l (lin12) hr164) k_X1_rate wM_X3_75 ⟨⟨rfl, rfl⟩, ⟨Nat.le_of_ble_eq_true rfl, Nat.le_of_ble_eq_true rfl⟩⟩ rfl (by decide) rfl rfl rfl hl rfl (Nat.le_of_ble_eq_true rfl) dX3_read_164 ⟨Nat.zero_le _, Nat.zero_le _⟩ (fun H locs hw => ?_)
                  refine lv_aload_n hx hb dX3_read_167 rfl (lv_at hl 0 rfl) ?_
                  refine a_getp (q := 12) (σ := aG r164) (o := 11) (T := TX3) (N := 7) C wU_X3 hw rfl (by decide) rfl 0 (by decide) rfl wF_X3_12 (aG_P rfl rfl) dX3_read_168 ?_
                  obtain ⟨r171, hr171, hM⟩ := h_b hM
                  refine a_callV (σ' := aG r171) (v := none) (As := fun ad => []) (rest := []) (o := 12) C hw (c_X2_showFirst l (lin12) hr171) k_X2_showFirst wM_X3_79 ⟨⟨rfl, rfl⟩, ⟨Nat.le_of_ble_eq_true rfl, Nat.le_of_ble_eq_true rfl⟩⟩ (aLin_k lin12).1 (by decide) rfl rfl rfl hl rfl (Nat.le_of_ble_eq_true rfl) dX3_read_171 ⟨Nat.zero_le _, Nat.zero_le _⟩ (fun H locs hw => ?_)
                  refine lv_aload_n hx hb dX3_read_174 rfl (lv_at hl 0 rfl) ?_
                  refine a_geti (σ := aG r171) (o := 11) (T := TX3) (N := 7) C wU_X3 hw rfl (by decide) rfl 4 (by decide) rfl wF_X3_36 dX3_read_175 ?_
                  cases h_e hM
                  exact a_iret C hw dX3_read_178
        · replace hM := h_t hc hM
          refine lv_aload_n hx hb dX3_read_72 rfl (lv_at hl 0 rfl) ?_
          obtain ⟨r73, hr73, hM⟩ := h_b hM
          refine a_callV (σ' := aG r73.2) (v := (some (.int r73.1))) (As := fun ad => []) (rest := []) (o := 11) C hw (c_X3_readPart l hr73) k_X3_readPart wM_X3_61 ⟨⟨rfl, rfl⟩, ⟨Nat.le_of_ble_eq_true rfl, Nat.le_of_ble_eq_true rfl⟩⟩ rfl (by decide) rfl rfl rfl hl rfl (Nat.le_of_ble_eq_true rfl) dX3_read_73 ⟨Nat.zero_le _, Nat.zero_le _⟩ (fun H locs hw => ?_)
          refine lv_if_eq (tgt := 92) hx hb dX3_read_76 (by decide) (fun hc => ?_) (fun hc => ?_)
          · replace hM := h_t hc hM
            refine lv_iconst (v := (0 : Int32)) hx hb dX3_read_92 (by decide) ?_
            refine lv_istore_n (lv' := [(3, .int (0 : Int32)), (0, .ref (ad 11)), (1, .ref (ad 1)), (2, .int y2), (4, .int y4)]) hx hb dX3_read_93 rfl hl (by decide) rfl (fun ls hl => ?_)
            refine lv_iinc (v := (y4 + 1)) (lv' := [(4, .int (y4 + 1)), (3, .int (0 : Int32)), (0, .ref (ad 11)), (1, .ref (ad 1)), (2, .int y2)]) hx hb dX3_read_94 hl (k := 4) rfl rfl (by decide) rfl (fun ls hl => ?_)
            refine lv_goto (tgt := 46) hx hb dX3_read_97 (by decide) ?_
            exact ih (y2) ((0 : Int32)) ((y4 + 1)) hM hw (lv_sub hl [2, 3, 4, 1, 0] rfl)
          · replace hM := h_f hc hM
            refine lv_aload_n hx hb dX3_read_79 rfl (lv_at hl 0 rfl) ?_
            refine lv_bipush (v := (59 : Int32)) hx hb dX3_read_80 (by decide) ?_
            obtain ⟨r82, hr82, hM⟩ := h_b hM
            refine a_callV (σ' := aG r82.2) (v := (some (.int r82.1))) (As := fun ad => [.int (59 : Int32)]) (rest := []) (o := 11) C hw (c_X3_readSign l hr82) k_X3_readSign wM_X3_64 ⟨⟨rfl, rfl⟩, ⟨Nat.le_of_ble_eq_true rfl, Nat.le_of_ble_eq_true rfl⟩⟩ rfl (by decide) rfl rfl rfl hl rfl (Nat.le_of_ble_eq_true rfl) dX3_read_82 ⟨Nat.zero_le _, Nat.zero_le _⟩ (fun H locs hw => ?_)
            refine lv_if_eq (tgt := 92) hx hb dX3_read_85 (by decide) (fun hc => ?_) (fun hc => ?_)
            · replace hM := h_t hc hM
              refine lv_iconst (v := (0 : Int32)) hx hb dX3_read_92 (by decide) ?_
              refine lv_istore_n (lv' := [(3, .int (0 : Int32)), (0, .ref (ad 11)), (1, .ref (ad 1)), (2, .int y2), (4, .int y4)]) hx hb dX3_read_93 rfl hl (by decide) rfl (fun ls hl => ?_)
              refine lv_iinc (v := (y4 + 1)) (lv' := [(4, .int (y4 + 1)), (3, .int (0 : Int32)), (0, .ref (ad 11)), (1, .ref (ad 1)), (2, .int y2)]) hx hb dX3_read_94 hl (k := 4) rfl rfl (by decide) rfl (fun ls hl => ?_)
              refine lv_goto (tgt := 46) hx hb dX3_read_97 (by decide) ?_
              exact ih (y2) ((0 : Int32)) ((y4 + 1)) hM hw (lv_sub hl [2, 3, 4, 1, 0] rfl)
            · replace hM := h_f hc hM
              refine lv_iconst (v := (1 : Int32)) hx hb dX3_read_88 (by decide) ?_
              refine lv_goto (tgt := 93) hx hb dX3_read_89 (by decide) ?_
              refine lv_istore_n (lv' := [(3, .int (1 : Int32)), (0, .ref (ad 11)), (1, .ref (ad 1)), (2, .int y2), (4, .int y4)]) hx hb dX3_read_93 rfl hl (by decide) rfl (fun ls hl => ?_)
              refine lv_iinc (v := (y4 + 1)) (lv' := [(4, .int (y4 + 1)), (3, .int (1 : Int32)), (0, .ref (ad 11)), (1, .ref (ad 1)), (2, .int y2)]) hx hb dX3_read_94 hl (k := 4) rfl rfl (by decide) rfl (fun ls hl => ?_)
              refine lv_goto (tgt := 46) hx hb dX3_read_97 (by decide) ?_
              exact ih (y2) ((1 : Int32)) ((y4 + 1)) hM hw (lv_sub hl [2, 3, 4, 1, 0] rfl)
set_option maxHeartbeats 4000000 in
set_option maxRecDepth 100000 in
theorem c_X3_read (l : Launch) {x2 : Int32} {ι : iS} {res : Int32 × iS} (hM : m_X3_read x2 ι = some res) : aM l yX3_read cX3_read 5 (some .int) rm_X3_read (fun ad => [.ref (ad 11), .ref (ad 1), .int x2]) (aG ι) (some (.int res.1)) (aG res.2) := by
  refine aM.of (by decide) (fun _ => Nat.le_of_ble_eq_true rfl) ?_
  intro p e s m args below meth c D dA ad adV A ls C hw hl
  have C : aX p m c cX3_read 5 s args aTs RX3 meth (some .int) := C
  have hx := C.1.1
  have hb := C.1.2.1
  have hml := C.1.2.2.1
  have hown := C.1.2.2.2.1
  have hts := C.1.2.2.2.2
  have hl : lv_has ls 5 [(0, .ref (ad 11)), (1, .ref (ad 1)), (2, .int x2)] := hl
  unfold m_X3_read at hM
  refine lv_aload_n hx hb dX3_read_0 rfl (lv_at hl 0 rfl) ?_
  refine a_getp (q := 24) (σ := aG ι) (o := 11) (T := TX3) (N := 7) C wU_X3 hw rfl (by decide) rfl 3 (by decide) rfl wF_X3_32 (aG_P rfl rfl) dX3_read_1 ?_
  refine lv_aload_n hx hb dX3_read_4 rfl (lv_at hl 1 rfl) ?_
  refine lv_iload_n hx hb dX3_read_5 rfl (lv_at hl 2 rfl) ?_
  obtain ⟨r6, hr6, hM⟩ := h_b hM
  refine a_callV (σ' := aG r6) (v := none) (As := fun ad => [.ref (ad 1), .int x2]) (rest := []) (o := 24) C hw (c_X4_scan l hr6) k_X4_scan wM_X3_45 ⟨⟨rfl, rfl⟩, ⟨Nat.le_of_ble_eq_true rfl, Nat.le_of_ble_eq_true rfl⟩⟩ rfl (by decide) rfl rfl rfl hl rfl (Nat.le_of_ble_eq_true rfl) dX3_read_6 ⟨Nat.zero_le _, Nat.zero_le _⟩ (fun H locs hw => ?_)
  refine lv_aload_n hx hb dX3_read_9 rfl (lv_at hl 0 rfl) ?_
  refine a_getp (q := 12) (σ := aG r6) (o := 11) (T := TX3) (N := 7) C wU_X3 hw rfl (by decide) rfl 0 (by decide) rfl wF_X3_12 (aG_P rfl rfl) dX3_read_10 ?_
  obtain ⟨r13, hr13, hM⟩ := h_b hM
  refine a_callV (σ' := aG r13) (v := none) (As := fun ad => []) (rest := []) (o := 12) C hw (c_X2_clear l (lin12) hr13) k_X2_clear wM_X3_49 ⟨⟨rfl, rfl⟩, ⟨Nat.le_of_ble_eq_true rfl, Nat.le_of_ble_eq_true rfl⟩⟩ (aLin_k lin12).1 (by decide) rfl rfl rfl hl rfl (Nat.le_of_ble_eq_true rfl) dX3_read_13 ⟨Nat.zero_le _, Nat.zero_le _⟩ (fun H locs hw => ?_)
  refine lv_aload_n hx hb dX3_read_16 rfl (lv_at hl 0 rfl) ?_
  refine a_getp (q := 21) (σ := aG r13) (o := 11) (T := TX3) (N := 7) C wU_X3 hw rfl (by decide) rfl 1 (by decide) rfl wF_X3_21 (aG_P rfl rfl) dX3_read_17 ?_
  obtain ⟨r20, hr20, hM⟩ := h_b hM
  refine a_callV (σ' := aG r20) (v := none) (As := fun ad => []) (rest := []) (o := 21) C hw (c_X1_clear l hr20) k_X1_clear wM_X3_52 ⟨⟨rfl, rfl⟩, ⟨Nat.le_of_ble_eq_true rfl, Nat.le_of_ble_eq_true rfl⟩⟩ rfl (by decide) rfl rfl rfl hl rfl (Nat.le_of_ble_eq_true rfl) dX3_read_20 ⟨Nat.zero_le _, Nat.zero_le _⟩ (fun H locs hw => ?_)
  refine lv_aload_n hx hb dX3_read_23 rfl (lv_at hl 0 rfl) ?_
  refine lv_iconst (v := (0 : Int32)) hx hb dX3_read_24 (by decide) ?_
  refine a_puti (ty := .int) (σ := aG r20) (o := 11) (T := TX3) (N := 7) (ty0 := tyX3) C wU_X3 tyX3_ok nmX3 hw rfl (by decide) rfl 4 (by decide) rfl wF_X3_36 rfl (by decide +kernel) rfl rfl dX3_read_25 (fun H locs hw => ?_)
  have hw : aW D dA ad adV (aG (pI r20 11 4 (0 : Int32))) A s H locs := by rw [aG_PI] at hw; exact hw
  refine lv_aload_n hx hb dX3_read_28 rfl (lv_at hl 0 rfl) ?_
  refine lv_iconst (v := (0 : Int32)) hx hb dX3_read_29 (by decide) ?_
  refine a_puti (ty := .int) (σ := aG (pI r20 11 4 (0 : Int32))) (o := 11) (T := TX3) (N := 7) (ty0 := tyX3) C wU_X3 tyX3_ok nmX3 hw rfl (by decide) rfl 5 (by decide) rfl wF_X3_39 rfl (by decide +kernel) rfl rfl dX3_read_30 (fun H locs hw => ?_)
  have hw : aW D dA ad adV (aG (pI (pI r20 11 4 (0 : Int32)) 11 5 (0 : Int32))) A s H locs := by rw [aG_PI] at hw; exact hw
  refine lv_aload_n hx hb dX3_read_33 rfl (lv_at hl 0 rfl) ?_
  refine lv_iconst (v := (0 : Int32)) hx hb dX3_read_34 (by decide) ?_
  refine a_puti (ty := .int) (σ := aG (pI (pI r20 11 4 (0 : Int32)) 11 5 (0 : Int32))) (o := 11) (T := TX3) (N := 7) (ty0 := tyX3) C wU_X3 tyX3_ok nmX3 hw rfl (by decide) rfl 6 (by decide) rfl wF_X3_42 rfl (by decide +kernel) rfl rfl dX3_read_35 (fun H locs hw => ?_)
  have hw : aW D dA ad adV (aG (pI (pI (pI r20 11 4 (0 : Int32)) 11 5 (0 : Int32)) 11 6 (0 : Int32))) A s H locs := by rw [aG_PI] at hw; exact hw
  refine lv_aload_n hx hb dX3_read_38 rfl (lv_at hl 0 rfl) ?_
  obtain ⟨r39, hr39, hM⟩ := h_b hM
  refine a_callV (σ' := aG r39.2) (v := (some (.int r39.1))) (As := fun ad => []) (rest := []) (o := 11) C hw (c_X3_readTraits l hr39) k_X3_readTraits wM_X3_53 ⟨⟨rfl, rfl⟩, ⟨Nat.le_of_ble_eq_true rfl, Nat.le_of_ble_eq_true rfl⟩⟩ rfl (by decide) rfl rfl rfl hl rfl (Nat.le_of_ble_eq_true rfl) dX3_read_39 ⟨Nat.zero_le _, Nat.zero_le _⟩ (fun H locs hw => ?_)
  refine lv_istore_n (lv' := [(3, .int r39.1), (0, .ref (ad 11)), (1, .ref (ad 1)), (2, .int x2)]) hx hb dX3_read_42 rfl hl (by decide) rfl (fun ls hl => ?_)
  refine lv_iconst (v := (0 : Int32)) hx hb dX3_read_43 (by decide) ?_
  refine lv_istore (lv' := [(4, .int (0 : Int32)), (3, .int r39.1), (0, .ref (ad 11)), (1, .ref (ad 1)), (2, .int x2)]) hx hb dX3_read_44 hl (by decide) rfl (fun ls hl => ?_)
  exact tl_X3_read_46 l C aF (x2) (r39.1) ((0 : Int32)) hM hw (lv_sub hl [2, 3, 4, 1, 0] rfl)
