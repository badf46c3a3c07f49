def m_X0_chooseFrom (x1 : Nat) (x2 : Int32) (ι : iS) : Option (iS) := Option.bind (some (rI (pI (pI ι 35 3 (0 : Int32)) 35 4 (gI (pI ι 35 3 (0 : Int32)) x1 1)) 36 (va_cpy (gI (pI (pI ι 35 3 (0 : Int32)) 35 4 (gI (pI ι 35 3 (0 : Int32)) x1 1)) (x1 + 7)) (gI (pI (pI ι 35 3 (0 : Int32)) 35 4 (gI (pI ι 35 3 (0 : Int32)) x1 1)) 36) 0 0 16))) fun ι25 => Option.bind (m_X0_addFillers 20 (1 : Int32) x2 (0 : Int32) ((gI ι25 36 0)).toInt64 (((gI ι25 36 0)).toInt64 * ((gI ι25 36 0)).toInt64) ι25) fun r44 => some r44
def m_X3_leafKindAt (ι : iS) : Option (Int32 × iS) := Option.bind (m_X4_isNumber (gI ι 11 5) ι) fun r8 => if r8.1 = 0 then Option.bind (m_X4_isWord (gI r8.2 11 5) 9 r8.2) fun r26 => if r26.1 = 0 then Option.bind (m_X4_isWord (gI r26.2 11 5) 10 r26.2) fun r44 => if r44.1 = 0 then Option.bind (m_X4_isWord (gI r44.2 11 5) 11 r44.2) fun r62 => if r62.1 = 0 then some ((-1 : Int32), r62.2) else some ((3 : Int32), r62.2) else some ((2 : Int32), r44.2) else some ((1 : Int32), r26.2) else some ((0 : Int32), r8.2)
def m_X3_readLeaf (ι : iS) : Option (Int32 × iS) := Option.bind (m_X3_leafKindAt ι) fun r1 => if r1.1 = (-1 : Int32) then Option.bind (m_X3_fail (1 : Int32) r1.2) fun r12 => if r12.1 = 0 ∨ r12.1 = 1 then some (r12.1, r12.2) else none else if r1.1 = 0 then if r1.1 = 0 then Option.bind (m_X3_readNumber (0 : Int32) (99 : Int32) r1.2) fun r50 => if r50.1 = (-1 : Int32) then some ((0 : Int32), r50.2) else Option.bind (m_X1_add r1.1 r50.1 r50.2) fun r67 => some ((1 : Int32), r67) else Option.bind (m_X3_readNumber (0 : Int32) ((gI r1.2 12 0) - (1 : Int32)) r1.2) fun r50 => if r50.1 = (-1 : Int32) then some ((0 : Int32), r50.2) else Option.bind (m_X1_add r1.1 r50.1 r50.2) fun r67 => some ((1 : Int32), r67) else if r1.1 = 0 then Option.bind (m_X3_readNumber (0 : Int32) (99 : Int32) (pI r1.2 11 5 ((gI r1.2 11 5) + (1 : Int32)))) fun r50 => if r50.1 = (-1 : Int32) then some ((0 : Int32), r50.2) else Option.bind (m_X1_add r1.1 r50.1 r50.2) fun r67 => some ((1 : Int32), r67) else Option.bind (m_X3_readNumber (0 : Int32) ((gI (pI r1.2 11 5 ((gI r1.2 11 5) + (1 : Int32))) 12 0) - (1 : Int32)) (pI r1.2 11 5 ((gI r1.2 11 5) + (1 : Int32)))) fun r50 => if r50.1 = (-1 : Int32) then some ((0 : Int32), r50.2) else Option.bind (m_X1_add r1.1 r50.1 r50.2) fun r67 => some ((1 : Int32), r67)
def m_X3_settingAt (ι : iS) : Option (Int32 × iS) := Option.bind (m_X4_isWord (gI ι 11 5) 5 ι) fun r10 => if r10.1 = 0 then Option.bind (m_X4_isWord (gI r10.2 11 5) 6 r10.2) fun r28 => if r28.1 = 0 then Option.bind (m_X4_isWord (gI r28.2 11 5) 7 r28.2) fun r46 => if r46.1 = 0 then Option.bind (m_X4_isWord (gI r46.2 11 5) 8 r46.2) fun r64 => if r64.1 = 0 then some ((-1 : Int32), r64.2) else some ((3 : Int32), r64.2) else some ((2 : Int32), r46.2) else some ((1 : Int32), r28.2) else some ((0 : Int32), r10.2)
def m_X3_readTraits (ι : iS) : Option (Int32 × iS) := Option.bind (m_X4_isWord (gI ι 11 5) 0 ι) fun r10 => if r10.1 = 0 then Option.bind (m_X3_fail (1 : Int32) r10.2) fun r18 => if r18.1 = 0 ∨ r18.1 = 1 then some (r18.1, r18.2) else none else Option.bind (m_X3_readNumber (1 : Int32) (5 : Int32) (pI r10.2 11 5 ((gI r10.2 11 5) + (1 : Int32)))) fun r35 => if r35.1 = (-1 : Int32) then some ((0 : Int32), r35.2) else Option.bind (m_X3_readSign (59 : Int32) (pI r35.2 12 0 r35.1)) fun r57 => if r57.1 = 0 ∨ r57.1 = 1 then some (r57.1, r57.2) else none
theorem k_X0_chooseFrom : aCal RX0 yX0_chooseFrom cX0_chooseFrom 5 none 2 := ⟨wI_yX0_chooseFrom, wE_yX0_chooseFrom, wZ_X0, wC_yX0_chooseFrom, by decide +kernel⟩
theorem k_X3_leafKindAt : aCal RX3 yX3_leafKindAt cX3_leafKindAt 1 (some .int) 0 := ⟨wI_yX3_leafKindAt, wE_yX3_leafKindAt, wZ_X3, wC_yX3_leafKindAt, by decide +kernel⟩
theorem k_X3_readLeaf : aCal RX3 yX3_readLeaf cX3_readLeaf 3 (some .boolean) 0 := ⟨wI_yX3_readLeaf, wE_yX3_readLeaf, wZ_X3, wC_yX3_readLeaf, by decide +kernel⟩
theorem k_X3_settingAt : aCal RX3 yX3_settingAt cX3_settingAt 1 (some .int) 0 := ⟨wI_yX3_settingAt, wE_yX3_settingAt, wZ_X3, wC_yX3_settingAt, by decide +kernel⟩
theorem k_X3_readTraits : aCal RX3 yX3_readTraits cX3_readTraits 2 (some .boolean) 0 := ⟨wI_yX3_readTraits, wE_yX3_readTraits, wZ_X3, wC_yX3_readTraits, by decide +kernel⟩
def rm_X0_chooseFrom : Room := { frames := 61, cells := 0, slots := 0, locals := 1630 }
set_option maxHeartbeats 4000000 in
set_option maxRecDepth 100000 in
theorem c_X0_chooseFrom (l : Launch) {x1 : Nat} {x2 : Int32} (hx1 : aLin x1 = true) {ι : iS} {res : iS} (hM : m_X0_chooseFrom x1 x2 ι = some res) : aM l yX0_chooseFrom cX0_chooseFrom 5 none rm_X0_chooseFrom (fun ad => [.ref (ad 35), .ref (ad x1), .int x2]) (aG ι) none (aG res) := by
  refine aM.of (by decide) (fun _ => Nat.le_of_ble_eq_true rfl) ?_
  intro p e s m args below meth c D dA ad adV A ls C hw hl
  have C : aX p m c cX0_chooseFrom 5 s args aTs RX0 meth none := C
  have hx := C.1.1
  have hb := C.1.2.1
  have hml := C.1.2.2.1
  have hown := C.1.2.2.2.1
  have hts := C.1.2.2.2.2
  have hl : lv_has ls 5 [(0, .ref (ad 35)), (1, .ref (ad x1)), (2, .int x2)] := hl
  unfold m_X0_chooseFrom at hM
  refine lv_aload_n hx hb dX0_chooseFrom_0 rfl (lv_at hl 0 rfl) ?_
  refine lv_iconst (v := (0 : Int32)) hx hb dX0_chooseFrom_1 (by decide) ?_
  refine a_puti (ty := .boolean) (σ := aG ι) (o := 35) (T := TX0) (N := 6) (ty0 := tyX0) C wU_X0 tyX0_ok nmX0 hw rfl (by decide) rfl 3 (by decide) rfl wF_X0_22 rfl (by decide +kernel) (by decide) (by decide) dX0_chooseFrom_2 (fun H locs hw => ?_)
  have hw : aW D dA ad adV (aG (pI ι 35 3 (0 : Int32))) A s H locs := by rw [aG_PI] at hw; exact hw
  refine lv_aload_n hx hb dX0_chooseFrom_5 rfl (lv_at hl 0 rfl) ?_
  refine lv_aload_n hx hb dX0_chooseFrom_6 rfl (lv_at hl 1 rfl) ?_
  refine a_geti (σ := aG (pI ι 35 3 (0 : Int32))) (o := x1) (T := TX2) (N := 11) C wU_X2 hw (aLin_k hx1).1 (by decide) rfl 1 (by decide) rfl wF_X0_33 dX0_chooseFrom_7 ?_
  refine a_puti (ty := .int) (σ := aG (pI ι 35 3 (0 : Int32))) (o := 35) (T := TX0) (N := 6) (ty0 := tyX0) C wU_X0 tyX0_ok nmX0 hw rfl (by decide) rfl 4 (by decide) rfl wF_X0_26 rfl (by decide +kernel) rfl rfl dX0_chooseFrom_10 (fun H locs hw => ?_)
  have hw : aW D dA ad adV (aG (pI (pI ι 35 3 (0 : Int32)) 35 4 (gI (pI ι 35 3 (0 : Int32)) x1 1))) A s H locs := by rw [aG_PI] at hw; exact hw
  refine lv_aload_n hx hb dX0_chooseFrom_13 rfl (lv_at hl 1 rfl) ?_
  refine a_getp (q := (x1 + 7)) (σ := aG (pI (pI ι 35 3 (0 : Int32)) 35 4 (gI (pI ι 35 3 (0 : Int32)) x1 1))) (o := x1) (T := TX2) (N := 11) C wU_X2 hw (aLin_k hx1).1 (by decide) rfl 9 (by decide) rfl wF_X0_36 (aLin_p hx1 (pI (pI ι 35 3 (0 : Int32)) 35 4 (gI (pI ι 35 3 (0 : Int32)) x1 1)) 6 (by decide)) dX0_chooseFrom_14 ?_
  refine lv_iconst (v := (0 : Int32)) hx hb dX0_chooseFrom_17 (by decide) ?_
  refine lv_aload_n hx hb dX0_chooseFrom_18 rfl (lv_at hl 0 rfl) ?_
  refine a_getp (q := 36) (σ := aG (pI (pI ι 35 3 (0 : Int32)) 35 4 (gI (pI ι 35 3 (0 : Int32)) x1 1))) (o := 35) (T := TX0) (N := 6) C wU_X0 hw rfl (by decide) rfl 5 (by decide) rfl wF_X0_29 (aG_P rfl rfl) dX0_chooseFrom_19 ?_
  refine lv_iconst (v := (0 : Int32)) hx hb dX0_chooseFrom_22 (by decide) ?_
  refine lv_bipush (v := (16 : Int32)) hx hb dX0_chooseFrom_23 (by decide) ?_
  refine a_copy (σ := aG (pI (pI ι 35 3 (0 : Int32)) 35 4 (gI (pI ι 35 3 (0 : Int32)) x1 1))) (o := (x1 + 7)) (o1 := 36) C hw wM_X0_37 wN_arraycopyName wS_arraycopyName wZ_J10 (aLin_k hx1).2.2.2.2.2.2.2.1 rfl (by decide) (by decide) (by decide) (by decide) (by decide) hl (Nat.le_of_ble_eq_true rfl) (by decide +kernel) dX0_chooseFrom_25 (fun H locs hw => ?_)
  obtain ⟨ι25, hι25, hM⟩ := h_b hM
  have hw : aW D dA ad adV (aG ι25) A s H locs := by rw [h_e hι25]; exact hw
  refine lv_aload_n hx hb dX0_chooseFrom_28 rfl (lv_at hl 0 rfl) ?_
  refine a_getp (q := 36) (σ := aG ι25) (o := 35) (T := TX0) (N := 6) C wU_X0 hw rfl (by decide) rfl 5 (by decide) rfl wF_X0_29 (aG_P rfl rfl) dX0_chooseFrom_29 ?_
  refine lv_iconst (v := (0 : Int32)) hx hb dX0_chooseFrom_32 (by decide) ?_
  refine a_iald (σ := aG ι25) (o := 36) C hw rfl (aIn_v (by decide)) (show (0 : Int32).toNatClampNeg = 0 by decide) dX0_chooseFrom_33 ?_
  refine lv_i2l hx hb dX0_chooseFrom_34 rfl ?_
  refine lv_lstore_n (lv' := [(3, .long ((gI ι25 36 0)).toInt64), (0, .ref (ad 35)), (1, .ref (ad x1)), (2, .int x2)]) hx hb dX0_chooseFrom_35 rfl hl (by decide) rfl (fun ls hl => ?_)
  refine lv_aload_n hx hb dX0_chooseFrom_36 rfl (lv_at hl 1 rfl) ?_
  refine lv_iconst (v := (1 : Int32)) hx hb dX0_chooseFrom_37 (by decide) ?_
  refine lv_iload_n hx hb dX0_chooseFrom_38 rfl (lv_at hl 3 rfl) ?_
  refine lv_iconst (v := (0 : Int32)) hx hb dX0_chooseFrom_39 (by decide) ?_
  refine lv_lload_n hx hb dX0_chooseFrom_40 rfl (lv_at hl 0 rfl) ?_
  refine lv_lload_n hx hb dX0_chooseFrom_41 rfl (lv_at hl 0 rfl) ?_
  refine lv_lload_n hx hb dX0_chooseFrom_42 rfl (lv_at hl 0 rfl) ?_
  refine lv_lmul hx hb dX0_chooseFrom_43 ?_
  obtain ⟨r44, hr44, hM⟩ := h_b hM
  refine a_callV (σ' := aG r44) (v := none) (As := fun ad => [.int (1 : Int32), .int x2, .int (0 : Int32), .long ((gI ι25 36 0)).toInt64, .long (((gI ι25 36 0)).toInt64 * ((gI ι25 36 0)).toInt64)]) (rest := []) (o := 35) C hw (c_X0_addFillers l 20 hr44) k_X0_addFillers wM_X0_43 ⟨⟨rfl, rfl⟩, ⟨by first | (simp only [aRm, rm_X0_chooseFrom]; done) | (simp only [aRm, rm_X0_chooseFrom]; omega), by first | (simp only [aRm, rm_X0_chooseFrom]; done) | (simp only [aRm, rm_X0_chooseFrom]; omega)⟩⟩ rfl (by decide) rfl rfl rfl hl rfl (Nat.le_of_ble_eq_true rfl) dX0_chooseFrom_44 ⟨Nat.zero_le _, Nat.zero_le _⟩ (fun H locs hw => ?_)
  cases h_e hM
  exact a_vret C hw dX0_chooseFrom_47
def rm_X3_leafKindAt : Room := { frames := 5, cells := 0, slots := 0, locals := 108 }
set_option maxHeartbeats 4000000 in
set_option maxRecDepth 100000 in
theorem c_X3_leafKindAt (l : Launch) {ι : iS} {res : Int32 × iS} (hM : m_X3_leafKindAt ι = some res) : aM l yX3_leafKindAt cX3_leafKindAt 1 (some .int) rm_X3_leafKindAt (fun ad => [.ref (ad 11)]) (aG ι) (some (.int res.1)) (aG res.2) := by
  refine aM.of (by decide) (fun _ => Nat.le_of_ble_eq_true rfl) ?_
  intro p e s m args below meth c D dA ad adV A ls C hw hl
  have C : aX p m c cX3_leafKindAt 1 s args aTs RX3 meth (some .int) := C
  have hx := C.1.1
  have hb := C.1.2.1
  have hml := C.1.2.2.1
  have hown := C.1.2.2.2.1
  have hts := C.1.2.2.2.2
  have hl : lv_has ls 1 [(0, .ref (ad 11))] := hl
  unfold m_X3_leafKindAt at hM
  refine lv_aload_n hx hb dX3_leafKindAt_0 rfl (lv_at hl 0 rfl) ?_
  refine a_getp (q := 24) (σ := aG ι) (o := 11) (T := TX3) (N := 7) C wU_X3 hw rfl (by decide) rfl 3 (by decide) rfl wF_X3_32 (aG_P rfl rfl) dX3_leafKindAt_1 ?_
  refine lv_aload_n hx hb dX3_leafKindAt_4 rfl (lv_at hl 0 rfl) ?_
  refine a_geti (σ := aG ι) (o := 11) (T := TX3) (N := 7) C wU_X3 hw rfl (by decide) rfl 5 (by decide) rfl wF_X3_39 dX3_leafKindAt_5 ?_
  obtain ⟨r8, hr8, hM⟩ := h_b hM
  refine a_callV (σ' := aG r8.2) (v := (some (.int r8.1))) (As := fun ad => [.int (gI ι 11 5)]) (rest := []) (o := 24) C hw (c_X4_isNumber l hr8) k_X4_isNumber wM_X3_159 ⟨⟨rfl, rfl⟩, ⟨Nat.le_of_ble_eq_true rfl, Nat.le_of_ble_eq_true rfl⟩⟩ rfl (by decide) rfl rfl rfl hl rfl (Nat.le_of_ble_eq_true rfl) dX3_leafKindAt_8 ⟨Nat.zero_le _, Nat.zero_le _⟩ (fun H locs hw => ?_)
  refine lv_if_eq (tgt := 16) hx hb dX3_leafKindAt_11 (by decide) (fun hc => ?_) (fun hc => ?_)
  · replace hM := h_t hc hM
    refine lv_aload_n hx hb dX3_leafKindAt_16 rfl (lv_at hl 0 rfl) ?_
    refine a_getp (q := 24) (σ := aG r8.2) (o := 11) (T := TX3) (N := 7) C wU_X3 hw rfl (by decide) rfl 3 (by decide) rfl wF_X3_32 (aG_P rfl rfl) dX3_leafKindAt_17 ?_
    refine lv_aload_n hx hb dX3_leafKindAt_20 rfl (lv_at hl 0 rfl) ?_
    refine a_geti (σ := aG r8.2) (o := 11) (T := TX3) (N := 7) C wU_X3 hw rfl (by decide) rfl 5 (by decide) rfl wF_X3_39 dX3_leafKindAt_21 ?_
    refine a_ldcS (tx := "value") (q := 1000009) C hw (by decide) dX3_leafKindAt_24 ?_
    obtain ⟨r26, hr26, hM⟩ := h_b hM
    refine a_callV (σ' := aG r26.2) (v := (some (.int r26.1))) (As := fun ad => [.int (gI r8.2 11 5), .ref (ad 1000009)]) (rest := []) (o := 24) C hw (c_X4_isWord l (by decide) hr26) k_X4_isWord wM_X3_84 ⟨⟨rfl, rfl⟩, ⟨Nat.le_of_ble_eq_true rfl, Nat.le_of_ble_eq_true rfl⟩⟩ rfl (by decide) rfl rfl rfl hl rfl (Nat.le_of_ble_eq_true rfl) dX3_leafKindAt_26 ⟨Nat.zero_le _, Nat.zero_le _⟩ (fun H locs hw => ?_)
    refine lv_if_eq (tgt := 34) hx hb dX3_leafKindAt_29 (by decide) (fun hc => ?_) (fun hc => ?_)
    · replace hM := h_t hc hM
      refine lv_aload_n hx hb dX3_leafKindAt_34 rfl (lv_at hl 0 rfl) ?_
      refine a_getp (q := 24) (σ := aG r26.2) (o := 11) (T := TX3) (N := 7) C wU_X3 hw rfl (by decide) rfl 3 (by decide) rfl wF_X3_32 (aG_P rfl rfl) dX3_leafKindAt_35 ?_
      refine lv_aload_n hx hb dX3_leafKindAt_38 rfl (lv_at hl 0 rfl) ?_
      refine a_geti (σ := aG r26.2) (o := 11) (T := TX3) (N := 7) C wU_X3 hw rfl (by decide) rfl 5 (by decide) rfl wF_X3_39 dX3_leafKindAt_39 ?_
      refine a_ldcS (tx := "off") (q := 1000010) C hw (by decide) dX3_leafKindAt_42 ?_
      obtain ⟨r44, hr44, hM⟩ := h_b hM
      refine a_callV (σ' := aG r44.2) (v := (some (.int r44.1))) (As := fun ad => [.int (gI r26.2 11 5), .ref (ad 1000010)]) (rest := []) (o := 24) C hw (c_X4_isWord l (by decide) hr44) k_X4_isWord wM_X3_84 ⟨⟨rfl, rfl⟩, ⟨Nat.le_of_ble_eq_true rfl, Nat.le_of_ble_eq_true rfl⟩⟩ rfl (by decide) rfl rfl rfl hl rfl (Nat.le_of_ble_eq_true rfl) dX3_leafKindAt_44 ⟨Nat.zero_le _, Nat.zero_le _⟩ (fun H locs hw => ?_)
      refine lv_if_eq (tgt := 52) hx hb dX3_leafKindAt_47 (by decide) (fun hc => ?_) (fun hc => ?_)
      · replace hM := h_t hc hM
        refine lv_aload_n hx hb dX3_leafKindAt_52 rfl (lv_at hl 0 rfl) ?_
        refine a_getp (q := 24) (σ := aG r44.2) (o := 11) (T := TX3) (N := 7) C wU_X3 hw rfl (by decide) rfl 3 (by decide) rfl wF_X3_32 (aG_P rfl rfl) dX3_leafKindAt_53 ?_
        refine lv_aload_n hx hb dX3_leafKindAt_56 rfl (lv_at hl 0 rfl) ?_
        refine a_geti (σ := aG r44.2) (o := 11) (T := TX3) (N := 7) C wU_X3 hw rfl (by decide) rfl 5 (by decide) rfl wF_X3_39 dX3_leafKindAt_57 ?_
        refine a_ldcS (tx := "weight") (q := 1000011) C hw (by decide) dX3_leafKindAt_60 ?_
        obtain ⟨r62, hr62, hM⟩ := h_b hM
        refine a_callV (σ' := aG r62.2) (v := (some (.int r62.1))) (As := fun ad => [.int (gI r44.2 11 5), .ref (ad 1000011)]) (rest := []) (o := 24) C hw (c_X4_isWord l (by decide) hr62) k_X4_isWord wM_X3_84 ⟨⟨rfl, rfl⟩, ⟨Nat.le_of_ble_eq_true rfl, Nat.le_of_ble_eq_true rfl⟩⟩ rfl (by decide) rfl rfl rfl hl rfl (Nat.le_of_ble_eq_true rfl) dX3_leafKindAt_62 ⟨Nat.zero_le _, Nat.zero_le _⟩ (fun H locs hw => ?_)
        refine lv_if_eq (tgt := 72) hx hb dX3_leafKindAt_65 (by decide) (fun hc => ?_) (fun hc => ?_)
        · replace hM := h_t hc hM
          refine lv_iconst (v := (-1 : Int32)) hx hb dX3_leafKindAt_72 (by decide) ?_
          cases h_e hM
          exact a_iret C hw dX3_leafKindAt_73
        · replace hM := h_f hc hM
          refine lv_iconst (v := (3 : Int32)) hx hb dX3_leafKindAt_68 (by decide) ?_
          refine lv_goto (tgt := 73) hx hb dX3_leafKindAt_69 (by decide) ?_
          cases h_e hM
          exact a_iret C hw dX3_leafKindAt_73
      · replace hM := h_f hc hM
        refine lv_iconst (v := (2 : Int32)) hx hb dX3_leafKindAt_50 (by decide) ?_
        cases h_e hM
        exact a_iret C hw dX3_leafKindAt_51
    · replace hM := h_f hc hM
      refine lv_iconst (v := (1 : Int32)) hx hb dX3_leafKindAt_32 (by decide) ?_
      cases h_e hM
      exact a_iret C hw dX3_leafKindAt_33
  · replace hM := h_f hc hM
    refine lv_iconst (v := (0 : Int32)) hx hb dX3_leafKindAt_14 (by decide) ?_
    cases h_e hM
    exact a_iret C hw dX3_leafKindAt_15
def rm_X3_readLeaf : Room := { frames := 6, cells := 0, slots := 0, locals := 128 }
set_option maxHeartbeats 4000000 in
set_option maxRecDepth 100000 in
theorem c_X3_readLeaf (l : Launch) {ι : iS} {res : Int32 × iS} (hM : m_X3_readLeaf ι = some res) : aM l yX3_readLeaf cX3_readLeaf 3 (some .boolean) rm_X3_readLeaf (fun ad => [.ref (ad 11)]) (aG ι) (some (.int res.1)) (aG res.2) := by
  refine aM.of (by decide) (fun _ => Nat.le_of_ble_eq_true rfl) ?_
  intro p e s m args below meth c D dA ad adV A ls C hw hl
  have C : aX p m c cX3_readLeaf 3 s args aTs RX3 meth (some .boolean) := C
  have hx := C.1.1
  have hb := C.1.2.1
  have hml := C.1.2.2.1
  have hown := C.1.2.2.2.1
  have hts := C.1.2.2.2.2
  have hl : lv_has ls 3 [(0, .ref (ad 11))] := hl
  unfold m_X3_readLeaf at hM
  refine lv_aload_n hx hb dX3_readLeaf_0 rfl (lv_at hl 0 rfl) ?_
  obtain ⟨r1, hr1, hM⟩ := h_b hM
  refine a_callV (σ' := aG r1.2) (v := (some (.int r1.1))) (As := fun ad => []) (rest := []) (o := 11) C hw (c_X3_leafKindAt l hr1) k_X3_leafKindAt wM_X3_178 ⟨⟨rfl, rfl⟩, ⟨Nat.le_of_ble_eq_true rfl, Nat.le_of_ble_eq_true rfl⟩⟩ rfl (by decide) rfl rfl rfl hl rfl (Nat.le_of_ble_eq_true rfl) dX3_readLeaf_1 ⟨Nat.zero_le _, Nat.zero_le _⟩ (fun H locs hw => ?_)
  refine lv_istore_n (lv' := [(1, .int r1.1), (0, .ref (ad 11))]) hx hb dX3_readLeaf_4 rfl hl (by decide) rfl (fun ls hl => ?_)
  refine lv_iload_n hx hb dX3_readLeaf_5 rfl (lv_at hl 0 rfl) ?_
  refine lv_iconst (v := (-1 : Int32)) hx hb dX3_readLeaf_6 (by decide) ?_
  refine lv_icmp_ne (tgt := 16) hx hb dX3_readLeaf_7 (by decide) (fun hc => ?_) (fun hc => ?_)
  · replace hM := h_f hc hM
    refine lv_iload_n hx hb dX3_readLeaf_16 rfl (lv_at hl 0 rfl) ?_
    refine lv_if_eq (tgt := 30) hx hb dX3_readLeaf_17 (by decide) (fun hc => ?_) (fun hc => ?_)
    · replace hM := h_t hc hM
      refine lv_aload_n hx hb dX3_readLeaf_30 rfl (lv_at hl 1 rfl) ?_
      refine lv_iconst (v := (0 : Int32)) hx hb dX3_readLeaf_31 (by decide) ?_
      refine lv_iload_n hx hb dX3_readLeaf_32 rfl (lv_at hl 0 rfl) ?_
      refine lv_if_ne (tgt := 41) hx hb dX3_readLeaf_33 (by decide) (fun hc => ?_) (fun hc => ?_)
      · replace hM := h_f hc hM
        refine lv_aload_n hx hb dX3_readLeaf_41 rfl (lv_at hl 1 rfl) ?_
        refine a_getp (q := 12) (σ := aG r1.2) (o := 11) (T := TX3) (N := 7) C wU_X3 hw rfl (by decide) rfl 0 (by decide) rfl wF_X3_12 (aG_P rfl rfl) dX3_readLeaf_42 ?_
        refine a_geti (σ := aG r1.2) (o := 12) (T := TX2) (N := 11) C wU_X2 hw (aLin_k lin12).1 (by decide) rfl 0 (by decide) rfl wF_X3_92 dX3_readLeaf_45 ?_
        refine lv_iconst (v := (1 : Int32)) hx hb dX3_readLeaf_48 (by decide) ?_
        refine lv_isub hx hb dX3_readLeaf_49 ?_
        obtain ⟨r50, hr50, hM⟩ := h_b hM
        refine a_callV (σ' := aG r50.2) (v := (some (.int r50.1))) (As := fun ad => [.int (0 : Int32), .int ((gI r1.2 12 0) - (1 : Int32))]) (rest := []) (o := 11) C hw (c_X3_readNumber l hr50) k_X3_readNumber wM_X3_88 ⟨⟨rfl, rfl⟩, ⟨Nat.le_of_ble_eq_true rfl, Nat.le_of_ble_eq_true rfl⟩⟩ rfl (by decide) rfl rfl rfl hl rfl (Nat.le_of_ble_eq_true rfl) dX3_readLeaf_50 ⟨Nat.zero_le _, Nat.zero_le _⟩ (fun H locs hw => ?_)
        refine lv_istore_n (lv' := [(2, .int r50.1), (1, .int r1.1), (0, .ref (ad 11))]) hx hb dX3_readLeaf_53 rfl hl (by decide) rfl (fun ls hl => ?_)
        refine lv_iload_n hx hb dX3_readLeaf_54 rfl (lv_at hl 0 rfl) ?_
        refine lv_iconst (v := (-1 : Int32)) hx hb dX3_readLeaf_55 (by decide) ?_
        refine lv_icmp_ne (tgt := 61) hx hb dX3_readLeaf_56 (by decide) (fun hc => ?_) (fun hc => ?_)
        · replace hM := h_f hc hM
          refine lv_aload_n hx hb dX3_readLeaf_61 rfl (lv_at hl 2 rfl) ?_
          refine a_getp (q := 21) (σ := aG r50.2) (o := 11) (T := TX3) (N := 7) C wU_X3 hw rfl (by decide) rfl 1 (by decide) rfl wF_X3_21 (aG_P rfl rfl) dX3_readLeaf_62 ?_
          refine lv_iload_n hx hb dX3_readLeaf_65 rfl (lv_at hl 1 rfl) ?_
          refine lv_iload_n hx hb dX3_readLeaf_66 rfl (lv_at hl 0 rfl) ?_
          obtain ⟨r67, hr67, hM⟩ := h_b hM
          refine a_callV (σ' := aG r67) (v := none) (As := fun ad => [.int r1.1, .int r50.1]) (rest := []) (o := 21) C hw (c_X1_add l hr67) k_X1_add wM_X3_168 ⟨⟨rfl, rfl⟩, ⟨Nat.le_of_ble_eq_true rfl, Nat.le_of_ble_eq_true rfl⟩⟩ rfl (by decide) rfl rfl rfl hl rfl (Nat.le_of_ble_eq_true rfl) dX3_readLeaf_67 ⟨Nat.zero_le _, Nat.zero_le _⟩ (fun H locs hw => ?_)
          refine lv_iconst (v := (1 : Int32)) hx hb dX3_readLeaf_70 (by decide) ?_
          cases h_e hM
          exact a_zret C (zn (v := 1) (Or.inr rfl)) hw dX3_readLeaf_71
        · replace hM := h_t hc hM
          refine lv_iconst (v := (0 : Int32)) hx hb dX3_readLeaf_59 (by decide) ?_
          cases h_e hM
          exact a_zret C (zn (v := 0) (Or.inl rfl)) hw dX3_readLeaf_60
      · replace hM := h_t hc hM
        refine lv_bipush (v := (99 : Int32)) hx hb dX3_readLeaf_36 (by decide) ?_
        refine lv_goto (tgt := 50) hx hb dX3_readLeaf_38 (by decide) ?_
        obtain ⟨r50, hr50, hM⟩ := h_b hM
        refine a_callV (σ' := aG r50.2) (v := (some (.int r50.1))) (As := fun ad => [.int (0 : Int32), .int (99 : Int32)]) (rest := []) (o := 11) C hw (c_X3_readNumber l hr50) k_X3_readNumber wM_X3_88 ⟨⟨rfl, rfl⟩, ⟨Nat.le_of_ble_eq_true rfl, Nat.le_of_ble_eq_true rfl⟩⟩ rfl (by decide) rfl rfl rfl hl rfl (Nat.le_of_ble_eq_true rfl) dX3_readLeaf_50 ⟨Nat.zero_le _, Nat.zero_le _⟩ (fun H locs hw => ?_)
        refine lv_istore_n (lv' := [(2, .int r50.1), (1, .int r1.1), (0, .ref (ad 11))]) hx hb dX3_readLeaf_53 rfl hl (by decide) rfl (fun ls hl => ?_)
        refine lv_iload_n hx hb dX3_readLeaf_54 rfl (lv_at hl 0 rfl) ?_
        refine lv_iconst (v := (-1 : Int32)) hx hb dX3_readLeaf_55 (by decide) ?_
        refine lv_icmp_ne (tgt := 61) hx hb dX3_readLeaf_56 (by decide) (fun hc => ?_) (fun hc => ?_)
        · replace hM := h_f hc hM
          refine lv_aload_n hx hb dX3_readLeaf_61 rfl (lv_at hl 2 rfl) ?_
          refine a_getp (q := 21) (σ := aG r50.2) (o := 11) (T := TX3) (N := 7) C wU_X3 hw rfl (by decide) rfl 1 (by decide) rfl wF_X3_21 (aG_P rfl rfl) dX3_readLeaf_62 ?_
          refine lv_iload_n hx hb dX3_readLeaf_65 rfl (lv_at hl 1 rfl) ?_
          refine lv_iload_n hx hb dX3_readLeaf_66 rfl (lv_at hl 0 rfl) ?_
          obtain ⟨r67, hr67, hM⟩ := h_b hM
          refine a_callV (σ' := aG r67) (v := none) (As := fun ad => [.int r1.1, .int r50.1]) (rest := []) (o := 21) C hw (c_X1_add l hr67) k_X1_add wM_X3_168 ⟨⟨rfl, rfl⟩, ⟨Nat.le_of_ble_eq_true rfl, Nat.le_of_ble_eq_true rfl⟩⟩ rfl (by decide) rfl rfl rfl hl rfl (Nat.le_of_ble_eq_true rfl) dX3_readLeaf_67 ⟨Nat.zero_le _, Nat.zero_le _⟩ (fun H locs hw => ?_)
          refine lv_iconst (v := (1 : Int32)) hx hb dX3_readLeaf_70 (by decide) ?_
          cases h_e hM
          exact a_zret C (zn (v := 1) (Or.inr rfl)) hw dX3_readLeaf_71
        · replace hM := h_t hc hM
          refine lv_iconst (v := (0 : Int32)) hx hb dX3_readLeaf_59 (by decide) ?_
          cases h_e hM
          exact a_zret C (zn (v := 0) (Or.inl rfl)) hw dX3_readLeaf_60
    · replace hM := h_f hc hM
      refine lv_aload_n hx hb dX3_readLeaf_20 rfl (lv_at hl 1 rfl) ?_
      refine lv_dup hx hb dX3_readLeaf_21 rfl ?_
      refine a_geti (σ := aG r1.2) (o := 11) (T := TX3) (N := 7) C wU_X3 hw rfl (by decide) rfl 5 (by decide) rfl wF_X3_39 dX3_readLeaf_22 ?_
      refine lv_iconst (v := (1 : Int32)) hx hb dX3_readLeaf_25 (by decide) ?_
      refine lv_iadd hx hb dX3_readLeaf_26 ?_
      refine a_puti (ty := .int) (σ := aG r1.2) (o := 11) (T := TX3) (N := 7) (ty0 := tyX3) C wU_X3 tyX3_ok nmX3 hw rfl (by decide) rfl 5 (by decide) rfl wF_X3_39 rfl (by decide +kernel) rfl rfl dX3_readLeaf_27 (fun H locs hw => ?_)
      have hw : aW D dA ad adV (aG (pI r1.2 11 5 ((gI r1.2 11 5) + (1 : Int32)))) A s H locs := by rw [aG_PI] at hw; exact hw
      refine lv_aload_n hx hb dX3_readLeaf_30 rfl (lv_at hl 1 rfl) ?_
      refine lv_iconst (v := (0 : Int32)) hx hb dX3_readLeaf_31 (by decide) ?_
      refine lv_iload_n hx hb dX3_readLeaf_32 rfl (lv_at hl 0 rfl) ?_
      refine lv_if_ne (tgt := 41) hx hb dX3_readLeaf_33 (by decide) (fun hc => ?_) (fun hc => ?_)
      · replace hM := h_f hc hM
        refine lv_aload_n hx hb dX3_readLeaf_41 rfl (lv_at hl 1 rfl) ?_
        refine a_getp (q := 12) (σ := aG (pI r1.2 11 5 ((gI r1.2 11 5) + (1 : Int32)))) (o := 11) (T := TX3) (N := 7) C wU_X3 hw rfl (by decide) rfl 0 (by decide) rfl wF_X3_12 (aG_P rfl rfl) dX3_readLeaf_42 ?_
        refine a_geti (σ := aG (pI r1.2 11 5 ((gI r1.2 11 5) + (1 : Int32)))) (o := 12) (T := TX2) (N := 11) C wU_X2 hw (aLin_k lin12).1 (by decide) rfl 0 (by decide) rfl wF_X3_92 dX3_readLeaf_45 ?_
        refine lv_iconst (v := (1 : Int32)) hx hb dX3_readLeaf_48 (by decide) ?_
        refine lv_isub hx hb dX3_readLeaf_49 ?_
        obtain ⟨r50, hr50, hM⟩ := h_b hM
        refine a_callV (σ' := aG r50.2) (v := (some (.int r50.1))) (As := fun ad => [.int (0 : Int32), .int ((gI (pI r1.2 11 5 ((gI r1.2 11 5) + (1 : Int32))) 12 0) - (1 : Int32))]) (rest := []) (o := 11) C hw (c_X3_readNumber l hr50) k_X3_readNumber wM_X3_88 ⟨⟨rfl, rfl⟩, ⟨Nat.le_of_ble_eq_true rfl, Nat.le_of_ble_eq_true rfl⟩⟩ rfl (by decide) rfl rfl rfl hl rfl (Nat.le_of_ble_eq_true rfl) dX3_readLeaf_50 ⟨Nat.zero_le _, Nat.zero_le _⟩ (fun H locs hw => ?_)
        refine lv_istore_n (lv' := [(2, .int r50.1), (1, .int r1.1), (0, .ref (ad 11))]) hx hb dX3_readLeaf_53 rfl hl (by decide) rfl (fun ls hl => ?_)
        refine lv_iload_n hx hb dX3_readLeaf_54 rfl (lv_at hl 0 rfl) ?_
        refine lv_iconst (v := (-1 : Int32)) hx hb dX3_readLeaf_55 (by decide) ?_
        refine lv_icmp_ne (tgt := 61) hx hb dX3_readLeaf_56 (by decide) (fun hc => ?_) (fun hc => ?_)
        · replace hM := h_f hc hM
          refine lv_aload_n hx hb dX3_readLeaf_61 rfl (lv_at hl 2 rfl) ?_
          refine a_getp (q := 21) (σ := aG r50.2) (o := 11) (T := TX3) (N := 7) C wU_X3 hw rfl (by decide) rfl 1 (by decide) rfl wF_X3_21 (aG_P rfl rfl) dX3_readLeaf_62 ?_
          refine lv_iload_n hx hb dX3_readLeaf_65 rfl (lv_at hl 1 rfl) ?_
          refine lv_iload_n hx hb dX3_readLeaf_66 rfl (lv_at hl 0 rfl) ?_
          obtain ⟨r67, hr67, hM⟩ := h_b hM
          refine a_callV (σ' := aG r67) (v := none) (As := fun ad => [.int r1.1, .int r50.1]) (rest := []) (o := 21) C hw (c_X1_add l hr67) k_X1_add wM_X3_168 ⟨⟨rfl, rfl⟩, ⟨Nat.le_of_ble_eq_true rfl, Nat.le_of_ble_eq_true rfl⟩⟩ rfl (by decide) rfl rfl rfl hl rfl (Nat.le_of_ble_eq_true rfl) dX3_readLeaf_67 ⟨Nat.zero_le _, Nat.zero_le _⟩ (fun H locs hw => ?_)
          refine lv_iconst (v := (1 : Int32)) hx hb dX3_readLeaf_70 (by decide) ?_
          cases h_e hM
          exact a_zret C (zn (v := 1) (Or.inr rfl)) hw dX3_readLeaf_71
        · replace hM := h_t hc hM
          refine lv_iconst (v := (0 : Int32)) hx hb dX3_readLeaf_59 (by decide) ?_
          cases h_e hM
          exact a_zret C (zn (v := 0) (Or.inl rfl)) hw dX3_readLeaf_60
      · replace hM := h_t hc hM
        refine lv_bipush (v := (99 : Int32)) hx hb dX3_readLeaf_36 (by decide) ?_
        refine lv_goto (tgt := 50) hx hb dX3_readLeaf_38 (by decide) ?_
        obtain ⟨r50, hr50, hM⟩ := h_b hM
        refine a_callV (σ' := aG r50.2) (v := (some (.int r50.1))) (As := fun ad => [.int (0 : Int32), .int (99 : Int32)]) (rest := []) (o := 11) C hw (c_X3_readNumber l hr50) k_X3_readNumber wM_X3_88 ⟨⟨rfl, rfl⟩, ⟨Nat.le_of_ble_eq_true rfl, Nat.le_of_ble_eq_true rfl⟩⟩ rfl (by decide) rfl rfl rfl hl rfl (Nat.le_of_ble_eq_true rfl) dX3_readLeaf_50 ⟨Nat.zero_le _, Nat.zero_le _⟩ (fun H locs hw => ?_)
        refine lv_istore_n (lv' := [(2, .int r50.1), (1, .int r1.1), (0, .ref (ad 11))]) hx hb dX3_readLeaf_53 rfl hl (by decide) rfl (fun ls hl => ?_)
        refine lv_iload_n hx hb dX3_readLeaf_54 rfl (lv_at hl 0 rfl) ?_
        refine lv_iconst (v := (-1 : Int32)) hx hb dX3_readLeaf_55 (by decide) ?_
        refine lv_icmp_ne (tgt := 61) hx hb dX3_readLeaf_56 (by decide) (fun hc => ?_) (fun hc => ?_)
        · replace hM := h_f hc hM
          refine lv_aload_n hx hb dX3_readLeaf_61 rfl (lv_at hl 2 rfl) ?_
          refine a_getp (q := 21) (σ := aG r50.2) (o := 11) (T := TX3) (N := 7) C wU_X3 hw rfl (by decide) rfl 1 (by decide) rfl wF_X3_21 (aG_P rfl rfl) dX3_readLeaf_62 ?_
          refine lv_iload_n hx hb dX3_readLeaf_65 rfl (lv_at hl 1 rfl) ?_
          refine lv_iload_n hx hb dX3_readLeaf_66 rfl (lv_at hl 0 rfl) ?_
          obtain ⟨r67, hr67, hM⟩ := h_b hM
          refine a_callV (σ' := aG r67) (v := none) (As := fun ad => [.int r1.1, .int r50.1]) (rest := []) (o := 21) C hw (c_X1_add l hr67) k_X1_add wM_X3_168 ⟨⟨rfl, rfl⟩, ⟨Nat.le_of_ble_eq_true rfl, Nat.le_of_ble_eq_true rfl⟩⟩ rfl (by decide) rfl rfl rfl hl rfl (Nat.le_of_ble_eq_true rfl) dX3_readLeaf_67 ⟨Nat.zero_le _, Nat.zero_le _⟩ (fun H locs hw => ?_)
          refine lv_iconst (v := (1 : Int32)) hx hb dX3_readLeaf_70 (by decide) ?_
          cases h_e hM
          exact a_zret C (zn (v := 1) (Or.inr rfl)) hw dX3_readLeaf_71
        · replace hM := h_t hc hM
          refine lv_iconst (v := (0 : Int32)) hx hb dX3_readLeaf_59 (by decide) ?_
          cases h_e hM
          exact a_zret C (zn (v := 0) (Or.inl rfl)) hw dX3_readLeaf_60
  · replace hM := h_t hc hM
    refine lv_aload_n hx hb dX3_readLeaf_10 rfl (lv_at hl 1 rfl) ?_
    refine lv_iconst (v := (1 : Int32)) hx hb dX3_readLeaf_11 (by decide) ?_
    obtain ⟨r12, hr12, hM⟩ := h_b hM
    refine a_callV (σ' := aG r12.2) (v := (some (.int r12.1))) (As := fun ad => [.int (1 : Int32)]) (rest := []) (o := 11) C hw (c_X3_fail l hr12) k_X3_fail wM_X3_68 ⟨⟨rfl, rfl⟩, ⟨Nat.le_of_ble_eq_true rfl, Nat.le_of_ble_eq_true rfl⟩⟩ rfl (by decide) rfl rfl rfl hl rfl (Nat.le_of_ble_eq_true rfl) dX3_readLeaf_12 ⟨Nat.zero_le _, Nat.zero_le _⟩ (fun H locs hw => ?_)
    obtain ⟨hz, hM⟩ := h_g hM
    cases h_e hM
    exact a_zret C (zn hz) hw dX3_readLeaf_15
def rm_X3_settingAt : Room := { frames := 5, cells := 0, slots := 0, locals := 108 }
set_option maxHeartbeats 4000000 in
set_option maxRecDepth 100000 in
theorem c_X3_settingAt (l : Launch) {ι : iS} {res : Int32 × iS} (hM : m_X3_settingAt ι = some res) : aM l yX3_settingAt cX3_settingAt 1 (some .int) rm_X3_settingAt (fun ad => [.ref (ad 11)]) (aG ι) (some (.int res.1)) (aG res.2) := by
  refine aM.of (by decide) (fun _ => Nat.le_of_ble_eq_true rfl) ?_
  intro p e s m args below meth c D dA ad adV A ls C hw hl
  have C : aX p m c cX3_settingAt 1 s args aTs RX3 meth (some .int) := C
  have hx := C.1.1
  have hb := C.1.2.1
  have hml := C.1.2.2.1
  have hown := C.1.2.2.2.1
  have hts := C.1.2.2.2.2
  have hl : lv_has ls 1 [(0, .ref (ad 11))] := hl
  unfold m_X3_settingAt at hM
  refine lv_aload_n hx hb dX3_settingAt_0 rfl (lv_at hl 0 rfl) ?_
  refine a_getp (q := 24) (σ := aG ι) (o := 11) (T := TX3) (N := 7) C wU_X3 hw rfl (by decide) rfl 3 (by decide) rfl wF_X3_32 (aG_P rfl rfl) dX3_settingAt_1 ?_
  refine lv_aload_n hx hb dX3_settingAt_4 rfl (lv_at hl 0 rfl) ?_
  refine a_geti (σ := aG ι) (o := 11) (T := TX3) (N := 7) C wU_X3 hw rfl (by decide) rfl 5 (by decide) rfl wF_X3_39 dX3_settingAt_5 ?_
  refine a_ldcS (tx := "noise") (q := 1000005) C hw (by decide) dX3_settingAt_8 ?_
  obtain ⟨r10, hr10, hM⟩ := h_b hM
  refine a_callV (σ' := aG r10.2) (v := (some (.int r10.1))) (As := fun ad => [.int (gI ι 11 5), .ref (ad 1000005)]) (rest := []) (o := 24) C hw (c_X4_isWord l (by decide) hr10) k_X4_isWord wM_X3_84 ⟨⟨rfl, rfl⟩, ⟨Nat.le_of_ble_eq_true rfl, Nat.le_of_ble_eq_true rfl⟩⟩ rfl (by decide) rfl rfl rfl hl rfl (Nat.le_of_ble_eq_true rfl) dX3_settingAt_10 ⟨Nat.zero_le _, Nat.zero_le _⟩ (fun H locs hw => ?_)
  refine lv_if_eq (tgt := 18) hx hb dX3_settingAt_13 (by decide) (fun hc => ?_) (fun hc => ?_)
  · replace hM := h_t hc hM
    refine lv_aload_n hx hb dX3_settingAt_18 rfl (lv_at hl 0 rfl) ?_
    refine a_getp (q := 24) (σ := aG r10.2) (o := 11) (T := TX3) (N := 7) C wU_X3 hw rfl (by decide) rfl 3 (by decide) rfl wF_X3_32 (aG_P rfl rfl) dX3_settingAt_19 ?_
    refine lv_aload_n hx hb dX3_settingAt_22 rfl (lv_at hl 0 rfl) ?_
    refine a_geti (σ := aG r10.2) (o := 11) (T := TX3) (N := 7) C wU_X3 hw rfl (by decide) rfl 5 (by decide) rfl wF_X3_39 dX3_settingAt_23 ?_
    refine a_ldcS (tx := "cut") (q := 1000006) C hw (by decide) dX3_settingAt_26 ?_
    obtain ⟨r28, hr28, hM⟩ := h_b hM
    refine a_callV (σ' := aG r28.2) (v := (some (.int r28.1))) (As := fun ad => [.int (gI r10.2 11 5), .ref (ad 1000006)]) (rest := []) (o := 24) C hw (c_X4_isWord l (by decide) hr28) k_X4_isWord wM_X3_84 ⟨⟨rfl, rfl⟩, ⟨Nat.le_of_ble_eq_true rfl, Nat.le_of_ble_eq_true rfl⟩⟩ rfl (by decide) rfl rfl rfl hl rfl (Nat.le_of_ble_eq_true rfl) dX3_settingAt_28 ⟨Nat.zero_le _, Nat.zero_le _⟩ (fun H locs hw => ?_)
    refine lv_if_eq (tgt := 36) hx hb dX3_settingAt_31 (by decide) (fun hc => ?_) (fun hc => ?_)
    · replace hM := h_t hc hM
      refine lv_aload_n hx hb dX3_settingAt_36 rfl (lv_at hl 0 rfl) ?_
      refine a_getp (q := 24) (σ := aG r28.2) (o := 11) (T := TX3) (N := 7) C wU_X3 hw rfl (by decide) rfl 3 (by decide) rfl wF_X3_32 (aG_P rfl rfl) dX3_settingAt_37 ?_
      refine lv_aload_n hx hb dX3_settingAt_40 rfl (lv_at hl 0 rfl) ?_
      refine a_geti (σ := aG r28.2) (o := 11) (T := TX3) (N := 7) C wU_X3 hw rfl (by decide) rfl 5 (by decide) rfl wF_X3_39 dX3_settingAt_41 ?_
      refine a_ldcS (tx := "nudge") (q := 1000007) C hw (by decide) dX3_settingAt_44 ?_
      obtain ⟨r46, hr46, hM⟩ := h_b hM
      refine a_callV (σ' := aG r46.2) (v := (some (.int r46.1))) (As := fun ad => [.int (gI r28.2 11 5), .ref (ad 1000007)]) (rest := []) (o := 24) C hw (c_X4_isWord l (by decide) hr46) k_X4_isWord wM_X3_84 ⟨⟨rfl, rfl⟩, ⟨Nat.le_of_ble_eq_true rfl, Nat.le_of_ble_eq_true rfl⟩⟩ rfl (by decide) rfl rfl rfl hl rfl (Nat.le_of_ble_eq_true rfl) dX3_settingAt_46 ⟨Nat.zero_le _, Nat.zero_le _⟩ (fun H locs hw => ?_)
      refine lv_if_eq (tgt := 54) hx hb dX3_settingAt_49 (by decide) (fun hc => ?_) (fun hc => ?_)
      · replace hM := h_t hc hM
        refine lv_aload_n hx hb dX3_settingAt_54 rfl (lv_at hl 0 rfl) ?_
        refine a_getp (q := 24) (σ := aG r46.2) (o := 11) (T := TX3) (N := 7) C wU_X3 hw rfl (by decide) rfl 3 (by decide) rfl wF_X3_32 (aG_P rfl rfl) dX3_settingAt_55 ?_
        refine lv_aload_n hx hb dX3_settingAt_58 rfl (lv_at hl 0 rfl) ?_
        refine a_geti (σ := aG r46.2) (o := 11) (T := TX3) (N := 7) C wU_X3 hw rfl (by decide) rfl 5 (by decide) rfl wF_X3_39 dX3_settingAt_59 ?_
        refine a_ldcS (tx := "prior") (q := 1000008) C hw (by decide) dX3_settingAt_62 ?_
        obtain ⟨r64, hr64, hM⟩ := h_b hM
        refine a_callV (σ' := aG r64.2) (v := (some (.int r64.1))) (As := fun ad => [.int (gI r46.2 11 5), .ref (ad 1000008)]) (rest := []) (o := 24) C hw (c_X4_isWord l (by decide) hr64) k_X4_isWord wM_X3_84 ⟨⟨rfl, rfl⟩, ⟨Nat.le_of_ble_eq_true rfl, Nat.le_of_ble_eq_true rfl⟩⟩ rfl (by decide) rfl rfl rfl hl rfl (Nat.le_of_ble_eq_true rfl) dX3_settingAt_64 ⟨Nat.zero_le _, Nat.zero_le _⟩ (fun H locs hw => ?_)
        refine lv_if_eq (tgt := 74) hx hb dX3_settingAt_67 (by decide) (fun hc => ?_) (fun hc => ?_)
        · replace hM := h_t hc hM
          refine lv_iconst (v := (-1 : Int32)) hx hb dX3_settingAt_74 (by decide) ?_
          cases h_e hM
          exact a_iret C hw dX3_settingAt_75
        · replace hM := h_f hc hM
          refine lv_iconst (v := (3 : Int32)) hx hb dX3_settingAt_70 (by decide) ?_
          refine lv_goto (tgt := 75) hx hb dX3_settingAt_71 (by decide) ?_
          cases h_e hM
          exact a_iret C hw dX3_settingAt_75
      · replace hM := h_f hc hM
        refine lv_iconst (v := (2 : Int32)) hx hb dX3_settingAt_52 (by decide) ?_
        cases h_e hM
        exact a_iret C hw dX3_settingAt_53
    · replace hM := h_f hc hM
      refine lv_iconst (v := (1 : Int32)) hx hb dX3_settingAt_34 (by decide) ?_
      cases h_e hM
      exact a_iret C hw dX3_settingAt_35
  · replace hM := h_f hc hM
    refine lv_iconst (v := (0 : Int32)) hx hb dX3_settingAt_16 (by decide) ?_
    cases h_e hM
    exact a_iret C hw dX3_settingAt_17
def rm_X3_readTraits : Room := { frames := 5, cells := 0, slots := 0, locals := 108 }
set_option maxHeartbeats 4000000 in
set_option maxRecDepth 100000 in
theorem c_X3_readTraits (l : Launch) {ι : iS} {res : Int32 × iS} (hM : m_X3_readTraits ι = some res) : aM l yX3_readTraits cX3_readTraits 2 (some .boolean) rm_X3_readTraits (fun ad => [.ref (ad 11)]) (aG ι) (some (.int res.1)) (aG res.2) := by
  refine aM.of (by decide) (fun _ => Nat.le_of_ble_eq_true rfl) ?_
  intro p e s m args below meth c D dA ad adV A ls C hw hl
  have C : aX p m c cX3_readTraits 2 s args aTs RX3 meth (some .boolean) := C
  have hx := C.1.1
  have hb := C.1.2.1
  have hml := C.1.2.2.1
  have hown := C.1.2.2.2.1
  have hts := C.1.2.2.2.2
  have hl : lv_has ls 2 [(0, .ref (ad 11))] := hl
  unfold m_X3_readTraits at hM
  refine lv_aload_n hx hb dX3_readTraits_0 rfl (lv_at hl 0 rfl) ?_
  refine a_getp (q := 24) (σ := aG ι) (o := 11) (T := TX3) (N := 7) C wU_X3 hw rfl (by decide) rfl 3 (by decide) rfl wF_X3_32 (aG_P rfl rfl) dX3_readTraits_1 ?_
  refine lv_aload_n hx hb dX3_readTraits_4 rfl (lv_at hl 0 rfl) ?_
  refine a_geti (σ := aG ι) (o := 11) (T := TX3) (N := 7) C wU_X3 hw rfl (by decide) rfl 5 (by decide) rfl wF_X3_39 dX3_readTraits_5 ?_
  refine a_ldcS (tx := "traits") (q := 1000000) C hw (by decide) dX3_readTraits_8 ?_
  obtain ⟨r10, hr10, hM⟩ := h_b hM
  refine a_callV (σ' := aG r10.2) (v := (some (.int r10.1))) (As := fun ad => [.int (gI ι 11 5), .ref (ad 1000000)]) (rest := []) (o := 24) C hw (c_X4_isWord l (by decide) hr10) k_X4_isWord wM_X3_84 ⟨⟨rfl, rfl⟩, ⟨Nat.le_of_ble_eq_true rfl, Nat.le_of_ble_eq_true rfl⟩⟩ rfl (by decide) rfl rfl rfl hl rfl (Nat.le_of_ble_eq_true rfl) dX3_readTraits_10 ⟨Nat.zero_le _, Nat.zero_le _⟩ (fun H locs hw => ?_)
  refine lv_if_ne (tgt := 22) hx hb dX3_readTraits_13 (by decide) (fun hc => ?_) (fun hc => ?_)
  · replace hM := h_f hc hM
    refine lv_aload_n hx hb dX3_readTraits_22 rfl (lv_at hl 0 rfl) ?_
    refine lv_dup hx hb dX3_readTraits_23 rfl ?_
    refine a_geti (σ := aG r10.2) (o := 11) (T := TX3) (N := 7) C wU_X3 hw rfl (by decide) rfl 5 (by decide) rfl wF_X3_39 dX3_readTraits_24 ?_
    refine lv_iconst (v := (1 : Int32)) hx hb dX3_readTraits_27 (by decide) ?_
    refine lv_iadd hx hb dX3_readTraits_28 ?_
    refine a_puti (ty := .int) (σ := aG r10.2) (o := 11) (T := TX3) (N := 7) (ty0 := tyX3) C wU_X3 tyX3_ok nmX3 hw rfl (by decide) rfl 5 (by decide) rfl wF_X3_39 rfl (by decide +kernel) rfl rfl dX3_readTraits_29 (fun H locs hw => ?_)
    have hw : aW D dA ad adV (aG (pI r10.2 11 5 ((gI r10.2 11 5) + (1 : Int32)))) A s H locs := by rw [aG_PI] at hw; exact hw
    refine lv_aload_n hx hb dX3_readTraits_32 rfl (lv_at hl 0 rfl) ?_
    refine lv_iconst (v := (1 : Int32)) hx hb dX3_readTraits_33 (by decide) ?_
    refine lv_iconst (v := (5 : Int32)) hx hb dX3_readTraits_34 (by decide) ?_
    obtain ⟨r35, hr35, hM⟩ := h_b hM
    refine a_callV (σ' := aG r35.2) (v := (some (.int r35.1))) (As := fun ad => [.int (1 : Int32), .int (5 : Int32)]) (rest := []) (o := 11) C hw (c_X3_readNumber l hr35) k_X3_readNumber wM_X3_88 ⟨⟨rfl, rfl⟩, ⟨Nat.le_of_ble_eq_true rfl, Nat.le_of_ble_eq_true rfl⟩⟩ rfl (by decide) rfl rfl rfl hl rfl (Nat.le_of_ble_eq_true rfl) dX3_readTraits_35 ⟨Nat.zero_le _, Nat.zero_le _⟩ (fun H locs hw => ?_)
    refine lv_istore_n (lv' := [(1, .int r35.1), (0, .ref (ad 11))]) hx hb dX3_readTraits_38 rfl hl (by decide) rfl (fun ls hl => ?_)
    refine lv_iload_n hx hb dX3_readTraits_39 rfl (lv_at hl 0 rfl) ?_
    refine lv_iconst (v := (-1 : Int32)) hx hb dX3_readTraits_40 (by decide) ?_
    refine lv_icmp_ne (tgt := 46) hx hb dX3_readTraits_41 (by decide) (fun hc => ?_) (fun hc => ?_)
    · replace hM := h_f hc hM
      refine lv_aload_n hx hb dX3_readTraits_46 rfl (lv_at hl 1 rfl) ?_
      refine a_getp (q := 12) (σ := aG r35.2) (o := 11) (T := TX3) (N := 7) C wU_X3 hw rfl (by decide) rfl 0 (by decide) rfl wF_X3_12 (aG_P rfl rfl) dX3_readTraits_47 ?_
      refine lv_iload_n hx hb dX3_readTraits_50 rfl (lv_at hl 0 rfl) ?_
      refine a_puti (ty := .int) (σ := aG r35.2) (o := 12) (T := TX2) (N := 11) (ty0 := tyX2) C wU_X2 tyX2_ok nmX2 hw (aLin_k lin12).1 (by decide) rfl 0 (by decide) rfl wF_X3_92 rfl (by decide +kernel) rfl rfl dX3_readTraits_51 (fun H locs hw => ?_)
      have hw : aW D dA ad adV (aG (pI r35.2 12 0 r35.1)) A s H locs := by rw [aG_PI] at hw; exact hw
      refine lv_aload_n hx hb dX3_readTraits_54 rfl (lv_at hl 1 rfl) ?_
      refine lv_bipush (v := (59 : Int32)) hx hb dX3_readTraits_55 (by decide) ?_
      obtain ⟨r57, hr57, hM⟩ := h_b hM
      refine a_callV (σ' := aG r57.2) (v := (some (.int r57.1))) (As := fun ad => [.int (59 : Int32)]) (rest := []) (o := 11) C hw (c_X3_readSign l hr57) k_X3_readSign wM_X3_64 ⟨⟨rfl, rfl⟩, ⟨Nat.le_of_ble_eq_true rfl, Nat.le_of_ble_eq_true rfl⟩⟩ rfl (by decide) rfl rfl rfl hl rfl (Nat.le_of_ble_eq_true rfl) dX3_readTraits_57 ⟨Nat.zero_le _, Nat.zero_le _⟩ (fun H locs hw => ?_)
      obtain ⟨hz, hM⟩ := h_g hM
      cases h_e hM
      exact a_zret C (zn hz) hw dX3_readTraits_60
    · replace hM := h_t hc hM
      refine lv_iconst (v := (0 : Int32)) hx hb dX3_readTraits_44 (by decide) ?_
      cases h_e hM
      exact a_zret C (zn (v := 0) (Or.inl rfl)) hw dX3_readTraits_45
  · replace hM := h_t hc hM
    refine lv_aload_n hx hb dX3_readTraits_16 rfl (lv_at hl 0 rfl) ?_
    refine lv_iconst (v := (1 : Int32)) hx hb dX3_readTraits_17 (by decide) ?_
    obtain ⟨r18, hr18, hM⟩ := h_b hM
    refine a_callV (σ' := aG r18.2) (v := (some (.int r18.1))) (As := fun ad => [.int (1 : Int32)]) (rest := []) (o := 11) C hw (c_X3_fail l hr18) k_X3_fail wM_X3_68 ⟨⟨rfl, rfl⟩, ⟨Nat.le_of_ble_eq_true rfl, Nat.le_of_ble_eq_true rfl⟩⟩ rfl (by decide) rfl rfl rfl hl rfl (Nat.le_of_ble_eq_true rfl) dX3_readTraits_18 ⟨Nat.zero_le _, Nat.zero_le _⟩ (fun H locs hw => ?_)
    obtain ⟨hz, hM⟩ := h_g hM
    cases h_e hM
    exact a_zret C (zn hz) hw dX3_readTraits_21
