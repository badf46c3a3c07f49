def m_X7_readsLine (ι : iS) : Option (iS) := Option.bind (m_X7_here ι) fun r1 => Option.bind (m_X7_takesOnce 3 (0 : Int32) r1.2) fun r14 => if r14.1 = 0 then Option.bind (m_X7_takes 1 r14.2) fun r38 => if r38.1 = 0 then Option.bind (m_X7_takes 2 r38.2) fun r90 => if r90.1 = 0 then Option.bind (m_X7_takesOnce 5 (1 : Int32) r90.2) fun r153 => if r153.1 = 0 then Option.bind (m_X7_takesOnce 6 (2 : Int32) r153.2) fun r178 => if r178.1 = 0 then Option.bind (m_X7_takesOnce 7 (3 : Int32) r178.2) fun r204 => if r204.1 = 0 then Option.bind (m_X7_takesOnce 8 (4 : Int32) r204.2) fun r231 => if r231.1 = 0 then Option.bind (m_X7_takesOnce 4 (5 : Int32) r231.2) fun r258 => if r258.1 = 0 then Option.bind (m_X7_wrong (1 : Int32) (gI r1.2 109 4) r258.2) fun r282 => Option.bind (m_X7_must (59 : Int32) r282) fun r288 => some r288 else Option.bind (m_X7_sum (m_X7_part 20) r258.2) fun r265 => Option.bind (m_X7_must (59 : Int32) (pI r265 113 8 (1 : Int32))) fun r288 => some r288 else Option.bind (m_X7_number (1 : Int32) (99 : Int32) r231.2) fun r247 => Option.bind (m_X7_must (59 : Int32) (pI r247.2 113 7 r247.1)) fun r288 => some r288 else Option.bind (m_X7_number (0 : Int32) (20 : Int32) r204.2) fun r220 => Option.bind (m_X7_must (59 : Int32) (pI r220.2 113 6 r220.1)) fun r288 => some r288 else Option.bind (m_X7_number (0 : Int32) (120 : Int32) r178.2) fun r193 => Option.bind (m_X7_must (59 : Int32) (pI r193.2 113 5 r193.1)) fun r288 => some r288 else Option.bind (m_X7_number (0 : Int32) (5 : Int32) r153.2) fun r167 => Option.bind (m_X7_must (59 : Int32) (pI r167.2 113 4 r167.1)) fun r288 => some r288 else Option.bind (m_X7_traitTold r90.2) fun r97 => Option.bind (m_X7_number (0 : Int32) (9 : Int32) r97.2) fun r105 => Option.bind (m_X7_number (1 : Int32) (9 : Int32) r105.2) fun r113 => Option.bind (m_X7_fine r113.2) fun r119 => if r119.1 = 0 then Option.bind (m_X7_must (59 : Int32) r119.2) fun r288 => some r288 else if aIn ((89 : Int32) + r97.1) 883 = true then if aIn ((94 : Int32) + r97.1) 883 = true then Option.bind (m_X7_must (59 : Int32) (pI (pI r119.2 113 ((89 : Int32) + r97.1).toNatClampNeg r105.1) 113 ((94 : Int32) + r97.1).toNatClampNeg r113.1)) fun r288 => some r288 else none else none else if (gI r38.2 113 1) = (15 : Int32) then Option.bind (m_X7_wrong (3 : Int32) (gI r1.2 109 4) r38.2) fun r58 => Option.bind (m_X7_must (59 : Int32) r58) fun r288 => some r288 else Option.bind (m_X7_values (gI (pI r38.2 113 1 ((gI r38.2 113 1) + (1 : Int32))) 113 1) (pI r38.2 113 1 ((gI r38.2 113 1) + (1 : Int32)))) fun r81 => Option.bind (m_X7_must (59 : Int32) r81) fun r288 => some r288 else Option.bind (m_X7_values (0 : Int32) r14.2) fun r22 => Option.bind (m_X7_must (59 : Int32) (pI r22 113 2 (1 : Int32))) fun r288 => some r288
def l_X7_text_207 : Nat → Int32 → Int32 → iS → Option (Int32 × iS)
  | 0, _, _, _ => none
  | n + 1, y1, y2, ι => if (gI ι 113 3) ≤ y2 then Option.bind (m_X7_remembers ι) fun r234 => Option.bind (m_X7_copies 113 112 r234) fun r245 => Option.bind (m_X7_persons r245) fun r249 => some (r249.1, r249.2) else if aIn ((99 : Int32) + y2) 883 = true then l_X7_text_207 n y1 (y2 + 1) (pI ι 113 ((99 : Int32) + y2).toNatClampNeg y2) else none
def l_X7_text_116 : Nat → Int32 → iS → Option (Int32 × iS)
  | 0, _, _ => none
  | n + 1, y1, ι => Option.bind (m_X7_fine ι) fun r117 => if r117.1 = 0 then Option.bind (m_X7_fine r117.2) fun r139 => if r139.1 = 0 then Option.bind (m_X7_fine (pI r139.2 109 5 (gI r139.2 109 7))) fun r172 => if r172.1 = 0 then some (((gI r172.2 109 6) - (10 : Int32)), r172.2) else Option.bind (m_X7_less (8 : Int32) ((1 : Int32) + (gI r172.2 113 1)) r172.2) fun r201 => l_X7_text_207 aF y1 (0 : Int32) (pI r201.2 113 3 r201.1) else if (gI r139.2 113 2) = 0 then Option.bind (m_X7_wrong (5 : Int32) (gI r139.2 109 3) r139.2) fun r160 => Option.bind (m_X7_fine (pI r160 109 5 (gI r160 109 7))) fun r172 => if r172.1 = 0 then some (((gI r172.2 109 6) - (10 : Int32)), r172.2) else Option.bind (m_X7_less (8 : Int32) ((1 : Int32) + (gI r172.2 113 1)) r172.2) fun r201 => l_X7_text_207 aF y1 (0 : Int32) (pI r201.2 113 3 r201.1) else Option.bind (m_X7_fine (pI r139.2 109 5 (gI r139.2 109 7))) fun r172 => if r172.1 = 0 then some (((gI r172.2 109 6) - (10 : Int32)), r172.2) else Option.bind (m_X7_less (8 : Int32) ((1 : Int32) + (gI r172.2 113 1)) r172.2) fun r201 => l_X7_text_207 aF y1 (0 : Int32) (pI r201.2 113 3 r201.1) else Option.bind (m_X7_here r117.2) fun r124 => if r124.1 = (-1 : Int32) then Option.bind (m_X7_fine r124.2) fun r139 => if r139.1 = 0 then Option.bind (m_X7_fine (pI r139.2 109 5 (gI r139.2 109 7))) fun r172 => if r172.1 = 0 then some (((gI r172.2 109 6) - (10 : Int32)), r172.2) else Option.bind (m_X7_less (8 : Int32) ((1 : Int32) + (gI r172.2 113 1)) r172.2) fun r201 => l_X7_text_207 aF y1 (0 : Int32) (pI r201.2 113 3 r201.1) else if (gI r139.2 113 2) = 0 then Option.bind (m_X7_wrong (5 : Int32) (gI r139.2 109 3) r139.2) fun r160 => Option.bind (m_X7_fine (pI r160 109 5 (gI r160 109 7))) fun r172 => if r172.1 = 0 then some (((gI r172.2 109 6) - (10 : Int32)), r172.2) else Option.bind (m_X7_less (8 : Int32) ((1 : Int32) + (gI r172.2 113 1)) r172.2) fun r201 => l_X7_text_207 aF y1 (0 : Int32) (pI r201.2 113 3 r201.1) else Option.bind (m_X7_fine (pI r139.2 109 5 (gI r139.2 109 7))) fun r172 => if r172.1 = 0 then some (((gI r172.2 109 6) - (10 : Int32)), r172.2) else Option.bind (m_X7_less (8 : Int32) ((1 : Int32) + (gI r172.2 113 1)) r172.2) fun r201 => l_X7_text_207 aF y1 (0 : Int32) (pI r201.2 113 3 r201.1) else Option.bind (m_X7_readsLine r124.2) fun r132 => l_X7_text_116 n y1 r132
def m_X7_text (x1 : Int32) (ι : iS) : Option (Int32 × iS) := Option.bind (m_X7_in x1 (0 : Int32) (gI (pI ι 109 0 (0 : Int32)) 109 2) (pI ι 109 0 (0 : Int32))) fun r12 => if r12.1 = 0 then Option.bind (m_X7_bad (1 : Int32) (1 : Int32) (1 : Int32) r12.2) fun r25 => if r25.1 = 0 then Option.bind (m_X7_begins 113 (pI (pI (pI (pI (pI (pI (pI (pI r25.2 109 2 (0 : Int32)) 109 3 x1) 109 4 (0 : Int32)) 109 6 (0 : Int32)) 109 7 (-1 : Int32)) 109 13 (0 : Int32)) 109 14 (0 : Int32)) 109 15 (0 : Int32))) fun r77 => Option.bind (m_X7_takes 0 r77) fun r83 => if r83.1 = 0 then Option.bind (m_X7_wrong (1 : Int32) (gI r83.2 109 4) r83.2) fun r95 => Option.bind (m_X7_number (1 : Int32) (5 : Int32) r95) fun r106 => Option.bind (m_X7_must (59 : Int32) (pI r106.2 113 0 r106.1)) fun r113 => l_X7_text_116 aF x1 r113 else Option.bind (m_X7_number (1 : Int32) (5 : Int32) r83.2) fun r106 => Option.bind (m_X7_must (59 : Int32) (pI r106.2 113 0 r106.1)) fun r113 => l_X7_text_116 aF x1 r113 else some ((0 : Int32), r25.2) else Option.bind (m_X7_bad (0 : Int32) (1 : Int32) (1 : Int32) r12.2) fun r25 => if r25.1 = 0 then Option.bind (m_X7_begins 113 (pI (pI (pI (pI (pI (pI (pI (pI r25.2 109 2 (0 : Int32)) 109 3 x1) 109 4 (0 : Int32)) 109 6 (0 : Int32)) 109 7 (-1 : Int32)) 109 13 (0 : Int32)) 109 14 (0 : Int32)) 109 15 (0 : Int32))) fun r77 => Option.bind (m_X7_takes 0 r77) fun r83 => if r83.1 = 0 then Option.bind (m_X7_wrong (1 : Int32) (gI r83.2 109 4) r83.2) fun r95 => Option.bind (m_X7_number (1 : Int32) (5 : Int32) r95) fun r106 => Option.bind (m_X7_must (59 : Int32) (pI r106.2 113 0 r106.1)) fun r113 => l_X7_text_116 aF x1 r113 else Option.bind (m_X7_number (1 : Int32) (5 : Int32) r83.2) fun r106 => Option.bind (m_X7_must (59 : Int32) (pI r106.2 113 0 r106.1)) fun r113 => l_X7_text_116 aF x1 r113 else some ((0 : Int32), r25.2)
def m_X0_chooseFrom (x1 : Nat) (x2 : Int32) (ι : iS) : Option (iS) := Option.bind (some (rI (pI (pI ι 35 3 (0 : Int32)) 35 4 (gI (pI ι 35 3 (0 : Int32)) x1 1)) 36 (va_cpy (gI (pI (pI ι 35 3 (0 : Int32)) 35 4 (gI (pI ι 35 3 (0 : Int32)) x1 1)) (x1 + 7)) (gI (pI (pI ι 35 3 (0 : Int32)) 35 4 (gI (pI ι 35 3 (0 : Int32)) x1 1)) 36) 0 0 16))) fun ι25 => Option.bind (m_X0_addFillers 20 (1 : Int32) x2 (0 : Int32) ((gI ι25 36 0)).toInt64 (((gI ι25 36 0)).toInt64 * ((gI ι25 36 0)).toInt64) ι25) fun r44 => some r44
def m_X3_leafKindAt (ι : iS) : Option (Int32 × iS) := Option.bind (m_X4_isNumber (gI ι 11 5) ι) fun r8 => if r8.1 = 0 then Option.bind (m_X4_isWord (gI r8.2 11 5) 9 r8.2) fun r26 => if r26.1 = 0 then Option.bind (m_X4_isWord (gI r26.2 11 5) 10 r26.2) fun r44 => if r44.1 = 0 then Option.bind (m_X4_isWord (gI r44.2 11 5) 11 r44.2) fun r62 => if r62.1 = 0 then some ((-1 : Int32), r62.2) else some ((3 : Int32), r62.2) else some ((2 : Int32), r44.2) else some ((1 : Int32), r26.2) else some ((0 : Int32), r8.2)
def m_X3_readLeaf (ι : iS) : Option (Int32 × iS) := Option.bind (m_X3_leafKindAt ι) fun r1 => if r1.1 = (-1 : Int32) then Option.bind (m_X3_fail (1 : Int32) r1.2) fun r12 => if r12.1 = 0 ∨ r12.1 = 1 then some (r12.1, r12.2) else none else if r1.1 = 0 then if r1.1 = 0 then Option.bind (m_X3_readNumber (0 : Int32) (99 : Int32) r1.2) fun r50 => if r50.1 = (-1 : Int32) then some ((0 : Int32), r50.2) else Option.bind (m_X1_add r1.1 r50.1 r50.2) fun r67 => some ((1 : Int32), r67) else Option.bind (m_X3_readNumber (0 : Int32) ((gI r1.2 12 0) - (1 : Int32)) r1.2) fun r50 => if r50.1 = (-1 : Int32) then some ((0 : Int32), r50.2) else Option.bind (m_X1_add r1.1 r50.1 r50.2) fun r67 => some ((1 : Int32), r67) else if r1.1 = 0 then Option.bind (m_X3_readNumber (0 : Int32) (99 : Int32) (pI r1.2 11 5 ((gI r1.2 11 5) + (1 : Int32)))) fun r50 => if r50.1 = (-1 : Int32) then some ((0 : Int32), r50.2) else Option.bind (m_X1_add r1.1 r50.1 r50.2) fun r67 => some ((1 : Int32), r67) else Option.bind (m_X3_readNumber (0 : Int32) ((gI (pI r1.2 11 5 ((gI r1.2 11 5) + (1 : Int32))) 12 0) - (1 : Int32)) (pI r1.2 11 5 ((gI r1.2 11 5) + (1 : Int32)))) fun r50 => if r50.1 = (-1 : Int32) then some ((0 : Int32), r50.2) else Option.bind (m_X1_add r1.1 r50.1 r50.2) fun r67 => some ((1 : Int32), r67)
def m_X3_settingAt (ι : iS) : Option (Int32 × iS) := Option.bind (m_X4_isWord (gI ι 11 5) 5 ι) fun r10 => if r10.1 = 0 then Option.bind (m_X4_isWord (gI r10.2 11 5) 6 r10.2) fun r28 => if r28.1 = 0 then Option.bind (m_X4_isWord (gI r28.2 11 5) 7 r28.2) fun r46 => if r46.1 = 0 then Option.bind (m_X4_isWord (gI r46.2 11 5) 8 r46.2) fun r64 => if r64.1 = 0 then some ((-1 : Int32), r64.2) else some ((3 : Int32), r64.2) else some ((2 : Int32), r46.2) else some ((1 : Int32), r28.2) else some ((0 : Int32), r10.2)
def m_X3_readTraits (ι : iS) : Option (Int32 × iS) := Option.bind (m_X4_isWord (gI ι 11 5) 0 ι) fun r10 => if r10.1 = 0 then Option.bind (m_X3_fail (1 : Int32) r10.2) fun r18 => if r18.1 = 0 ∨ r18.1 = 1 then some (r18.1, r18.2) else none else Option.bind (m_X3_readNumber (1 : Int32) (5 : Int32) (pI r10.2 11 5 ((gI r10.2 11 5) + (1 : Int32)))) fun r35 => if r35.1 = (-1 : Int32) then some ((0 : Int32), r35.2) else Option.bind (m_X3_readSign (59 : Int32) (pI r35.2 12 0 r35.1)) fun r57 => if r57.1 = 0 ∨ r57.1 = 1 then some (r57.1, r57.2) else none
theorem k_X7_readsLine : aCal RX7 yX7_readsLine cX7_readsLine 5 none 0 := ⟨wI_yX7_readsLine, wE_yX7_readsLine, wZ_X7, wC_yX7_readsLine, by decide +kernel⟩
theorem k_X7_text : aCal RX7 yX7_text cX7_text 3 (some .int) 1 := ⟨wI_yX7_text, wE_yX7_text, wZ_X7, wC_yX7_text, by decide +kernel⟩
theorem k_X0_chooseFrom : aCal RX0 yX0_chooseFrom cX0_chooseFrom 5 none 2 := ⟨wI_yX0_chooseFrom, wE_yX0_chooseFrom, wZ_X0, wC_yX0_chooseFrom, by decide +kernel⟩
theorem k_X3_leafKindAt : aCal RX3 yX3_leafKindAt cX3_leafKindAt 1 (some .int) 0 := ⟨wI_yX3_leafKindAt, wE_yX3_leafKindAt, wZ_X3, wC_yX3_leafKindAt, by decide +kernel⟩
theorem k_X3_readLeaf : aCal RX3 yX3_readLeaf cX3_readLeaf 3 (some .boolean) 0 := ⟨wI_yX3_readLeaf, wE_yX3_readLeaf, wZ_X3, wC_yX3_readLeaf, by decide +kernel⟩
theorem k_X3_settingAt : aCal RX3 yX3_settingAt cX3_settingAt 1 (some .int) 0 := ⟨wI_yX3_settingAt, wE_yX3_settingAt, wZ_X3, wC_yX3_settingAt, by decide +kernel⟩
theorem k_X3_readTraits : aCal RX3 yX3_readTraits cX3_readTraits 2 (some .boolean) 0 := ⟨wI_yX3_readTraits, wE_yX3_readTraits, wZ_X3, wC_yX3_readTraits, by decide +kernel⟩
def rm_X7_readsLine : Room := { frames := 103, cells := 0, slots := 0, locals := 2344 }
set_option maxHeartbeats 400000 in
set_option maxRecDepth 100000 in
theorem c_X7_readsLine (l : Launch) {ι : iS} {res : iS} (hM : m_X7_readsLine ι = some res) : aM l yX7_readsLine cX7_readsLine 5 none rm_X7_readsLine (fun ad => [.ref (ad 109)]) (aG ι) none (aG res) := by
  refine aM.of (by decide) (fun _ => Nat.le_of_ble_eq_true rfl) ?_
  intro p e s m args below meth c D dA ad adV A ls C hw hl
  have C : aX p m c cX7_readsLine 5 s args aTs RX7 meth none := C
  have hx := C.1.1
  have hb := C.1.2.1
  have hml := C.1.2.2.1
  have hown := C.1.2.2.2.1
  have hts := C.1.2.2.2.2
  have hl : lv_has ls 5 [(0, .ref (ad 109))] := hl
  unfold m_X7_readsLine at hM
  refine lv_aload_n hx hb dX7_readsLine_0 rfl (lv_at hl 0 rfl) ?_
  obtain ⟨r1, hr1, hM⟩ := h_b hM
  refine a_callV (σ' := aG r1.2) (v := (some (.int r1.1))) (As := fun ad => []) (rest := []) (o := 109) C hw (c_X7_here l hr1) k_X7_here wM_X7_68 ⟨⟨rfl, rfl⟩, ⟨Nat.le_of_ble_eq_true rfl, Nat.le_of_ble_eq_true rfl⟩⟩ rfl (by decide) rfl rfl rfl hl rfl (Nat.le_of_ble_eq_true rfl) dX7_readsLine_1 ⟨Nat.zero_le _, Nat.zero_le _⟩ (fun H locs hw => ?_)
  refine lv_pop hx hb dX7_readsLine_4 rfl ?_
  refine lv_aload_n hx hb dX7_readsLine_5 rfl (lv_at hl 0 rfl) ?_
  refine a_geti (σ := aG r1.2) (o := 109) (T := TX7) (N := 20) C wU_X7 hw rfl (by decide) rfl 4 (by decide) rfl wF_X7_51 dX7_readsLine_6 ?_
  refine lv_istore_n (lv' := [(1, .int (gI r1.2 109 4)), (0, .ref (ad 109))]) hx hb dX7_readsLine_9 rfl hl (by decide) rfl (fun ls hl => ?_)
  refine lv_aload_n hx hb dX7_readsLine_10 rfl (lv_at hl 1 rfl) ?_
  refine a_ldcS (tx := "suspect") (q := 1000003) C hw (by decide) dX7_readsLine_11 ?_
  refine lv_iconst (v := (0 : Int32)) hx hb dX7_readsLine_13 (by decide) ?_
  obtain ⟨r14, hr14, hM⟩ := h_b hM
  refine a_callV (σ' := aG r14.2) (v := (some (.int r14.1))) (As := fun ad => [.ref (ad 1000003), .int (0 : Int32)]) (rest := []) (o := 109) C hw (c_X7_takesOnce l (by decide) hr14) k_X7_takesOnce wM_X7_144 ⟨⟨rfl, rfl⟩, ⟨Nat.le_of_ble_eq_true rfl, Nat.le_of_ble_eq_true rfl⟩⟩ rfl (by decide) rfl rfl rfl hl rfl (Nat.le_of_ble_eq_true rfl) dX7_readsLine_14 ⟨Nat.zero_le _, Nat.zero_le _⟩ (fun H locs hw => ?_)
  refine lv_if_eq (tgt := 35) hx hb dX7_readsLine_17 (by decide) (fun hc => ?_) (fun hc => ?_)
  · replace hM := h_t hc hM
    refine lv_aload_n hx hb dX7_readsLine_35 rfl (lv_at hl 1 rfl) ?_
    refine a_ldcS (tx := "filler") (q := 1000001) C hw (by decide) dX7_readsLine_36 ?_
    obtain ⟨r38, hr38, hM⟩ := h_b hM
    refine a_callV (σ' := aG r38.2) (v := (some (.int r38.1))) (As := fun ad => [.ref (ad 1000001)]) (rest := []) (o := 109) C hw (c_X7_takes l (by decide) hr38) k_X7_takes wM_X7_125 ⟨⟨rfl, rfl⟩, ⟨Nat.le_of_ble_eq_true rfl, Nat.le_of_ble_eq_true rfl⟩⟩ rfl (by decide) rfl rfl rfl hl rfl (Nat.le_of_ble_eq_true rfl) dX7_readsLine_38 ⟨Nat.zero_le _, Nat.zero_le _⟩ (fun H locs hw => ?_)
    refine lv_if_eq (tgt := 87) hx hb dX7_readsLine_41 (by decide) (fun hc => ?_) (fun hc => ?_)
    · replace hM := h_t hc hM
      refine lv_aload_n hx hb dX7_readsLine_87 rfl (lv_at hl 1 rfl) ?_
      refine a_ldcS (tx := "told") (q := 1000002) C hw (by decide) dX7_readsLine_88 ?_
      obtain ⟨r90, hr90, hM⟩ := h_b hM
      refine a_callV (σ' := aG r90.2) (v := (some (.int r90.1))) (As := fun ad => [.ref (ad 1000002)]) (rest := []) (o := 109) C hw (c_X7_takes l (by decide) hr90) k_X7_takes wM_X7_125 ⟨⟨rfl, rfl⟩, ⟨Nat.le_of_ble_eq_true rfl, Nat.le_of_ble_eq_true rfl⟩⟩ rfl (by decide) rfl rfl rfl hl rfl (Nat.le_of_ble_eq_true rfl) dX7_readsLine_90 ⟨Nat.zero_le _, Nat.zero_le _⟩ (fun H locs hw => ?_)
      refine lv_if_eq (tgt := 149) hx hb dX7_readsLine_93 (by decide) (fun hc => ?_) (fun hc => ?_)
      · replace hM := h_t hc hM
        refine lv_aload_n hx hb dX7_readsLine_149 rfl (lv_at hl 1 rfl) ?_
        refine a_ldcS (tx := "noise") (q := 1000005) C hw (by decide) dX7_readsLine_150 ?_
        refine lv_iconst (v := (1 : Int32)) hx hb dX7_readsLine_152 (by decide) ?_
        obtain ⟨r153, hr153, hM⟩ := h_b hM
        refine a_callV (σ' := aG r153.2) (v := (some (.int r153.1))) (As := fun ad => [.ref (ad 1000005), .int (1 : Int32)]) (rest := []) (o := 109) C hw (c_X7_takesOnce l (by decide) hr153) k_X7_takesOnce wM_X7_144 ⟨⟨rfl, rfl⟩, ⟨Nat.le_of_ble_eq_true rfl, Nat.le_of_ble_eq_true rfl⟩⟩ rfl (by decide) rfl rfl rfl hl rfl (Nat.le_of_ble_eq_true rfl) dX7_readsLine_153 ⟨Nat.zero_le _, Nat.zero_le _⟩ (fun H locs hw => ?_)
        refine lv_if_eq (tgt := 174) hx hb dX7_readsLine_156 (by decide) (fun hc => ?_) (fun hc => ?_)
        · replace hM := h_t hc hM
          refine lv_aload_n hx hb dX7_readsLine_174 rfl (lv_at hl 1 rfl) ?_
          refine a_ldcS (tx := "cut") (q := 1000006) C hw (by decide) dX7_readsLine_175 ?_
          refine lv_iconst (v := (2 : Int32)) hx hb dX7_readsLine_177 (by decide) ?_
          obtain ⟨r178, hr178, hM⟩ := h_b hM
          refine a_callV (σ' := aG r178.2) (v := (some (.int r178.1))) (As := fun ad => [.ref (ad 1000006), .int (2 : Int32)]) (rest := []) (o := 109) C hw (c_X7_takesOnce l (by decide) hr178) k_X7_takesOnce wM_X7_144 ⟨⟨rfl, rfl⟩, ⟨Nat.le_of_ble_eq_true rfl, Nat.le_of_ble_eq_true rfl⟩⟩ rfl (by decide) rfl rfl rfl hl rfl (Nat.le_of_ble_eq_true rfl) dX7_readsLine_178 ⟨Nat.zero_le _, Nat.zero_le _⟩ (fun H locs hw => ?_)
          refine lv_if_eq (tgt := 200) hx hb dX7_readsLine_181 (by decide) (fun hc => ?_) (fun hc => ?_)
          · replace hM := h_t hc hM
            refine lv_aload_n hx hb dX7_readsLine_200 rfl (lv_at hl 1 rfl) ?_
            refine a_ldcS (tx := "nudge") (q := 1000007) C hw (by decide) dX7_readsLine_201 ?_
            refine lv_iconst (v := (3 : Int32)) hx hb dX7_readsLine_203 (by decide) ?_
            obtain ⟨r204, hr204, hM⟩ := h_b hM
            refine a_callV (σ' := aG r204.2) (v := (some (.int r204.1))) (As := fun ad => [.ref (ad 1000007), .int (3 : Int32)]) (rest := []) (o := 109) C hw (c_X7_takesOnce l (by decide) hr204) k_X7_takesOnce wM_X7_144 ⟨⟨rfl, rfl⟩, ⟨Nat.le_of_ble_eq_true rfl, Nat.le_of_ble_eq_true rfl⟩⟩ rfl (by decide) rfl rfl rfl hl rfl (Nat.le_of_ble_eq_true rfl) dX7_readsLine_204 ⟨Nat.zero_le _, Nat.zero_le _⟩ (fun H locs hw => ?_)
            refine lv_if_eq (tgt := 227) hx hb dX7_readsLine_207 (by decide) (fun hc => ?_) (fun hc => ?_)
            · replace hM := h_t hc hM
              refine lv_aload_n hx hb dX7_readsLine_227 rfl (lv_at hl 1 rfl) ?_
              refine a_ldcS (tx := "prior") (q := 1000008) C hw (by decide) dX7_readsLine_228 ?_
              refine lv_iconst (v := (4 : Int32)) hx hb dX7_readsLine_230 (by decide) ?_
              obtain ⟨r231, hr231, hM⟩ := h_b hM
              refine a_callV (σ' := aG r231.2) (v := (some (.int r231.1))) (As := fun ad => [.ref (ad 1000008), .int (4 : Int32)]) (rest := []) (o := 109) C hw (c_X7_takesOnce l (by decide) hr231) k_X7_takesOnce wM_X7_144 ⟨⟨rfl, rfl⟩, ⟨Nat.le_of_ble_eq_true rfl, Nat.le_of_ble_eq_true rfl⟩⟩ rfl (by decide) rfl rfl rfl hl rfl (Nat.le_of_ble_eq_true rfl) dX7_readsLine_231 ⟨Nat.zero_le _, Nat.zero_le _⟩ (fun H locs hw => ?_)
              refine lv_if_eq (tgt := 254) hx hb dX7_readsLine_234 (by decide) (fun hc => ?_) (fun hc => ?_)
              · replace hM := h_t hc hM
                refine lv_aload_n hx hb dX7_readsLine_254 rfl (lv_at hl 1 rfl) ?_
                refine a_ldcS (tx := "match") (q := 1000004) C hw (by decide) dX7_readsLine_255 ?_
                refine lv_iconst (v := (5 : Int32)) hx hb dX7_readsLine_257 (by decide) ?_
                obtain ⟨r258, hr258, hM⟩ := h_b hM
                refine a_callV (σ' := aG r258.2) (v := (some (.int r258.1))) (As := fun ad => [.ref (ad 1000004), .int (5 : Int32)]) (rest := []) (o := 109) C hw (c_X7_takesOnce l (by decide) hr258) k_X7_takesOnce wM_X7_144 ⟨⟨rfl, rfl⟩, ⟨Nat.le_of_ble_eq_true rfl, Nat.le_of_ble_eq_true rfl⟩⟩ rfl (by decide) rfl rfl rfl hl rfl (Nat.le_of_ble_eq_true rfl) dX7_readsLine_258 ⟨Nat.zero_le _, Nat.zero_le _⟩ (fun H locs hw => ?_)
                refine lv_if_eq (tgt := 279) hx hb dX7_readsLine_261 (by decide) (fun hc => ?_) (fun hc => ?_)
                · replace hM := h_t hc hM
                  refine lv_aload_n hx hb dX7_readsLine_279 rfl (lv_at hl 1 rfl) ?_
                  refine lv_iconst (v := (1 : Int32)) hx hb dX7_readsLine_280 (by decide) ?_
                  refine lv_iload_n hx hb dX7_readsLine_281 rfl (lv_at hl 0 rfl) ?_
                  obtain ⟨r282, hr282, hM⟩ := h_b hM
                  refine a_callV (σ' := aG r282) (v := none) (As := fun ad => [.int (1 : Int32), .int (gI r1.2 109 4)]) (rest := []) (o := 109) C hw (c_X7_wrong l hr282) k_X7_wrong wM_X7_85 ⟨⟨rfl, rfl⟩, ⟨Nat.le_of_ble_eq_true rfl, Nat.le_of_ble_eq_true rfl⟩⟩ rfl (by decide) rfl rfl rfl hl rfl (Nat.le_of_ble_eq_true rfl) dX7_readsLine_282 ⟨Nat.zero_le _, Nat.zero_le _⟩ (fun H locs hw => ?_)
                  refine lv_aload_n hx hb dX7_readsLine_285 rfl (lv_at hl 1 rfl) ?_
                  refine lv_bipush (v := (59 : Int32)) hx hb dX7_readsLine_286 (by decide) ?_
                  obtain ⟨r288, hr288, hM⟩ := h_b hM
                  refine a_callV (σ' := aG r288) (v := none) (As := fun ad => [.int (59 : Int32)]) (rest := []) (o := 109) C hw (c_X7_must l hr288) k_X7_must wM_X7_120 ⟨⟨rfl, rfl⟩, ⟨Nat.le_of_ble_eq_true rfl, Nat.le_of_ble_eq_true rfl⟩⟩ rfl (by decide) rfl rfl rfl hl rfl (Nat.le_of_ble_eq_true rfl) dX7_readsLine_288 ⟨Nat.zero_le _, Nat.zero_le _⟩ (fun H locs hw => ?_)
                  cases h_e hM
                  exact a_vret C hw dX7_readsLine_291
                · replace hM := h_f hc hM
                  refine lv_aload_n hx hb dX7_readsLine_264 rfl (lv_at hl 1 rfl) ?_
                  obtain ⟨r265, hr265, hM⟩ := h_b hM
                  refine a_callV (σ' := aG r265) (v := none) (As := fun ad => []) (rest := []) (o := 109) C hw (c_X7_sum l (f := 100) (w := 2280) (by omega) (by omega) (fun h => c_X7_part l 20 h) hr265) k_X7_sum wM_X7_117 ⟨⟨rfl, rfl⟩, ⟨Nat.le_of_ble_eq_true rfl, Nat.le_of_ble_eq_true rfl⟩⟩ rfl (by decide) rfl rfl rfl hl rfl (Nat.le_of_ble_eq_true rfl) dX7_readsLine_265 ⟨Nat.zero_le _, Nat.zero_le _⟩ (fun H locs hw => ?_)
                  refine lv_aload_n hx hb dX7_readsLine_268 rfl (lv_at hl 1 rfl) ?_
                  refine a_getp (q := 113) (σ := aG r265) (o := 109) (T := TX7) (N := 20) C wU_X7 hw rfl (by decide) rfl 10 (by decide) rfl wF_X7_23 (aG_P rfl rfl) dX7_readsLine_269 ?_
                  refine lv_bipush (v := (8 : Int32)) hx hb dX7_readsLine_272 (by decide) ?_
                  refine lv_iconst (v := (1 : Int32)) hx hb dX7_readsLine_274 (by decide) ?_
                  refine a_iast (σ := aG r265) (o := 113) C hw rfl (aIn_v (by decide)) (show (8 : Int32).toNatClampNeg = 8 by decide) dX7_readsLine_275 (fun H locs hw => ?_)
                  have hw : aW D dA ad adV (aG (pI r265 113 8 (1 : Int32))) A s H locs := hw
                  refine lv_goto (tgt := 285) hx hb dX7_readsLine_276 (by decide) ?_
                  refine lv_aload_n hx hb dX7_readsLine_285 rfl (lv_at hl 1 rfl) ?_
                  refine lv_bipush (v := (59 : Int32)) hx hb dX7_readsLine_286 (by decide) ?_
                  obtain ⟨r288, hr288, hM⟩ := h_b hM
                  refine a_callV (σ' := aG r288) (v := none) (As := fun ad => [.int (59 : Int32)]) (rest := []) (o := 109) C hw (c_X7_must l hr288) k_X7_must wM_X7_120 ⟨⟨rfl, rfl⟩, ⟨Nat.le_of_ble_eq_true rfl, Nat.le_of_ble_eq_true rfl⟩⟩ rfl (by decide) rfl rfl rfl hl rfl (Nat.le_of_ble_eq_true rfl) dX7_readsLine_288 ⟨Nat.zero_le _, Nat.zero_le _⟩ (fun H locs hw => ?_)
                  cases h_e hM
                  exact a_vret C hw dX7_readsLine_291
              · replace hM := h_f hc hM
                refine lv_aload_n hx hb dX7_readsLine_237 rfl (lv_at hl 1 rfl) ?_
                refine a_getp (q := 113) (σ := aG r231.2) (o := 109) (T := TX7) (N := 20) C wU_X7 hw rfl (by decide) rfl 10 (by decide) rfl wF_X7_23 (aG_P rfl rfl) dX7_readsLine_238 ?_
                refine lv_bipush (v := (7 : Int32)) hx hb dX7_readsLine_241 (by decide) ?_
                refine lv_aload_n hx hb dX7_readsLine_243 rfl (lv_at hl 1 rfl) ?_
                refine lv_iconst (v := (1 : Int32)) hx hb dX7_readsLine_244 (by decide) ?_
                refine lv_bipush (v := (99 : Int32)) hx hb dX7_readsLine_245 (by decide) ?_
                obtain ⟨r247, hr247, hM⟩ := h_b hM
                refine a_callV (σ' := aG r247.2) (v := (some (.int r247.1))) (As := fun ad => [.int (1 : Int32), .int (99 : Int32)]) (rest := [.int (7 : Int32), .ref (ad 113)]) (o := 109) C hw (c_X7_number l hr247) k_X7_number wM_X7_98 ⟨⟨rfl, rfl⟩, ⟨Nat.le_of_ble_eq_true rfl, Nat.le_of_ble_eq_true rfl⟩⟩ rfl (by decide) rfl rfl rfl hl rfl (Nat.le_of_ble_eq_true rfl) dX7_readsLine_247 ⟨Nat.zero_le _, Nat.zero_le _⟩ (fun H locs hw => ?_)
                refine a_iast (σ := aG r247.2) (o := 113) C hw rfl (aIn_v (by decide)) (show (7 : Int32).toNatClampNeg = 7 by decide) dX7_readsLine_250 (fun H locs hw => ?_)
                have hw : aW D dA ad adV (aG (pI r247.2 113 7 r247.1)) A s H locs := hw
                refine lv_goto (tgt := 285) hx hb dX7_readsLine_251 (by decide) ?_
                refine lv_aload_n hx hb dX7_readsLine_285 rfl (lv_at hl 1 rfl) ?_
                refine lv_bipush (v := (59 : Int32)) hx hb dX7_readsLine_286 (by decide) ?_
                obtain ⟨r288, hr288, hM⟩ := h_b hM
                refine a_callV (σ' := aG r288) (v := none) (As := fun ad => [.int (59 : Int32)]) (rest := []) (o := 109) C hw (c_X7_must l hr288) k_X7_must wM_X7_120 ⟨⟨rfl, rfl⟩, ⟨Nat.le_of_ble_eq_true rfl, Nat.le_of_ble_eq_true rfl⟩⟩ rfl (by decide) rfl rfl rfl hl rfl (Nat.le_of_ble_eq_true rfl) dX7_readsLine_288 ⟨Nat.zero_le _, Nat.zero_le _⟩ (fun H locs hw => ?_)
                cases h_e hM
                exact a_vret C hw dX7_readsLine_291
            · replace hM := h_f hc hM
              refine lv_aload_n hx hb dX7_readsLine_210 rfl (lv_at hl 1 rfl) ?_
              refine a_getp (q := 113) (σ := aG r204.2) (o := 109) (T := TX7) (N := 20) C wU_X7 hw rfl (by decide) rfl 10 (by decide) rfl wF_X7_23 (aG_P rfl rfl) dX7_readsLine_211 ?_
              refine lv_bipush (v := (6 : Int32)) hx hb dX7_readsLine_214 (by decide) ?_
              refine lv_aload_n hx hb dX7_readsLine_216 rfl (lv_at hl 1 rfl) ?_
              refine lv_iconst (v := (0 : Int32)) hx hb dX7_readsLine_217 (by decide) ?_
              refine lv_bipush (v := (20 : Int32)) hx hb dX7_readsLine_218 (by decide) ?_
              obtain ⟨r220, hr220, hM⟩ := h_b hM
              refine a_callV (σ' := aG r220.2) (v := (some (.int r220.1))) (As := fun ad => [.int (0 : Int32), .int (20 : Int32)]) (rest := [.int (6 : Int32), .ref (ad 113)]) (o := 109) C hw (c_X7_number l hr220) k_X7_number wM_X7_98 ⟨⟨rfl, rfl⟩, ⟨Nat.le_of_ble_eq_true rfl, Nat.le_of_ble_eq_true rfl⟩⟩ rfl (by decide) rfl rfl rfl hl rfl (Nat.le_of_ble_eq_true rfl) dX7_readsLine_220 ⟨Nat.zero_le _, Nat.zero_le _⟩ (fun H locs hw => ?_)
              refine a_iast (σ := aG r220.2) (o := 113) C hw rfl (aIn_v (by decide)) (show (6 : Int32).toNatClampNeg = 6 by decide) dX7_readsLine_223 (fun H locs hw => ?_)
              have hw : aW D dA ad adV (aG (pI r220.2 113 6 r220.1)) A s H locs := hw
              refine lv_goto (tgt := 285) hx hb dX7_readsLine_224 (by decide) ?_
              refine lv_aload_n hx hb dX7_readsLine_285 rfl (lv_at hl 1 rfl) ?_
              refine lv_bipush (v := (59 : Int32)) hx hb dX7_readsLine_286 (by decide) ?_
              obtain ⟨r288, hr288, hM⟩ := h_b hM
              refine a_callV (σ' := aG r288) (v := none) (As := fun ad => [.int (59 : Int32)]) (rest := []) (o := 109) C hw (c_X7_must l hr288) k_X7_must wM_X7_120 ⟨⟨rfl, rfl⟩, ⟨Nat.le_of_ble_eq_true rfl, Nat.le_of_ble_eq_true rfl⟩⟩ rfl (by decide) rfl rfl rfl hl rfl (Nat.le_of_ble_eq_true rfl) dX7_readsLine_288 ⟨Nat.zero_le _, Nat.zero_le _⟩ (fun H locs hw => ?_)
              cases h_e hM
              exact a_vret C hw dX7_readsLine_291
          · replace hM := h_f hc hM
            refine lv_aload_n hx hb dX7_readsLine_184 rfl (lv_at hl 1 rfl) ?_
            refine a_getp (q := 113) (σ := aG r178.2) (o := 109) (T := TX7) (N := 20) C wU_X7 hw rfl (by decide) rfl 10 (by decide) rfl wF_X7_23 (aG_P rfl rfl) dX7_readsLine_185 ?_
            refine lv_iconst (v := (5 : Int32)) hx hb dX7_readsLine_188 (by decide) ?_
            refine lv_aload_n hx hb dX7_readsLine_189 rfl (lv_at hl 1 rfl) ?_
            refine lv_iconst (v := (0 : Int32)) hx hb dX7_readsLine_190 (by decide) ?_
            refine lv_bipush (v := (120 : Int32)) hx hb dX7_readsLine_191 (by decide) ?_
            obtain ⟨r193, hr193, hM⟩ := h_b hM
            refine a_callV (σ' := aG r193.2) (v := (some (.int r193.1))) (As := fun ad => [.int (0 : Int32), .int (120 : Int32)]) (rest := [.int (5 : Int32), .ref (ad 113)]) (o := 109) C hw (c_X7_number l hr193) k_X7_number wM_X7_98 ⟨⟨rfl, rfl⟩, ⟨Nat.le_of_ble_eq_true rfl, Nat.le_of_ble_eq_true rfl⟩⟩ rfl (by decide) rfl rfl rfl hl rfl (Nat.le_of_ble_eq_true rfl) dX7_readsLine_193 ⟨Nat.zero_le _, Nat.zero_le _⟩ (fun H locs hw => ?_)
            refine a_iast (σ := aG r193.2) (o := 113) C hw rfl (aIn_v (by decide)) (show (5 : Int32).toNatClampNeg = 5 by decide) dX7_readsLine_196 (fun H locs hw => ?_)
            have hw : aW D dA ad adV (aG (pI r193.2 113 5 r193.1)) A s H locs := hw
            refine lv_goto (tgt := 285) hx hb dX7_readsLine_197 (by decide) ?_
            refine lv_aload_n hx hb dX7_readsLine_285 rfl (lv_at hl 1 rfl) ?_
            refine lv_bipush (v := (59 : Int32)) hx hb dX7_readsLine_286 (by decide) ?_
            obtain ⟨r288, hr288, hM⟩ := h_b hM
            refine a_callV (σ' := aG r288) (v := none) (As := fun ad => [.int (59 : Int32)]) (rest := []) (o := 109) C hw (c_X7_must l hr288) k_X7_must wM_X7_120 ⟨⟨rfl, rfl⟩, ⟨Nat.le_of_ble_eq_true rfl, Nat.le_of_ble_eq_true rfl⟩⟩ rfl (by decide) rfl rfl rfl hl rfl (Nat.le_of_ble_eq_true rfl) dX7_readsLine_288 ⟨Nat.zero_le _, Nat.zero_le _⟩ (fun H locs hw => ?_)
            cases h_e hM
            exact a_vret C hw dX7_readsLine_291
        · replace hM := h_f hc hM
          refine lv_aload_n hx hb dX7_readsLine_159 rfl (lv_at hl 1 rfl) ?_
          refine a_getp (q := 113) (σ := aG r153.2) (o := 109) (T := TX7) (N := 20) C wU_X7 hw rfl (by decide) rfl 10 (by decide) rfl wF_X7_23 (aG_P rfl rfl) dX7_readsLine_160 ?_
          refine lv_iconst (v := (4 : Int32)) hx hb dX7_readsLine_163 (by decide) ?_
          refine lv_aload_n hx hb dX7_readsLine_164 rfl (lv_at hl 1 rfl) ?_
          refine lv_iconst (v := (0 : Int32)) hx hb dX7_readsLine_165 (by decide) ?_
          refine lv_iconst (v := (5 : Int32)) hx hb dX7_readsLine_166 (by decide) ?_
          obtain ⟨r167, hr167, hM⟩ := h_b hM
          refine a_callV (σ' := aG r167.2) (v := (some (.int r167.1))) (As := fun ad => [.int (0 : Int32), .int (5 : Int32)]) (rest := [.int (4 : Int32), .ref (ad 113)]) (o := 109) C hw (c_X7_number l hr167) k_X7_number wM_X7_98 ⟨⟨rfl, rfl⟩, ⟨Nat.le_of_ble_eq_true rfl, Nat.le_of_ble_eq_true rfl⟩⟩ rfl (by decide) rfl rfl rfl hl rfl (Nat.le_of_ble_eq_true rfl) dX7_readsLine_167 ⟨Nat.zero_le _, Nat.zero_le _⟩ (fun H locs hw => ?_)
          refine a_iast (σ := aG r167.2) (o := 113) C hw rfl (aIn_v (by decide)) (show (4 : Int32).toNatClampNeg = 4 by decide) dX7_readsLine_170 (fun H locs hw => ?_)
          have hw : aW D dA ad adV (aG (pI r167.2 113 4 r167.1)) A s H locs := hw
          refine lv_goto (tgt := 285) hx hb dX7_readsLine_171 (by decide) ?_
          refine lv_aload_n hx hb dX7_readsLine_285 rfl (lv_at hl 1 rfl) ?_
          refine lv_bipush (v := (59 : Int32)) hx hb dX7_readsLine_286 (by decide) ?_
          obtain ⟨r288, hr288, hM⟩ := h_b hM
          refine a_callV (σ' := aG r288) (v := none) (As := fun ad => [.int (59 : Int32)]) (rest := []) (o := 109) C hw (c_X7_must l hr288) k_X7_must wM_X7_120 ⟨⟨rfl, rfl⟩, ⟨Nat.le_of_ble_eq_true rfl, Nat.le_of_ble_eq_true rfl⟩⟩ rfl (by decide) rfl rfl rfl hl rfl (Nat.le_of_ble_eq_true rfl) dX7_readsLine_288 ⟨Nat.zero_le _, Nat.zero_le _⟩ (fun H locs hw => ?_)
          cases h_e hM
          exact a_vret C hw dX7_readsLine_291
      · replace hM := h_f hc hM
        refine lv_aload_n hx hb dX7_readsLine_96 rfl (lv_at hl 1 rfl) ?_
        obtain ⟨r97, hr97, hM⟩ := h_b hM
        refine a_callV (σ' := aG r97.2) (v := (some (.int r97.1))) (As := fun ad => []) (rest := []) (o := 109) C hw (c_X7_traitTold l hr97) k_X7_traitTold wM_X7_133 ⟨⟨rfl, rfl⟩, ⟨Nat.le_of_ble_eq_true rfl, Nat.le_of_ble_eq_true rfl⟩⟩ rfl (by decide) rfl rfl rfl hl rfl (Nat.le_of_ble_eq_true rfl) dX7_readsLine_97 ⟨Nat.zero_le _, Nat.zero_le _⟩ (fun H locs hw => ?_)
        refine lv_istore_n (lv' := [(2, .int r97.1), (1, .int (gI r1.2 109 4)), (0, .ref (ad 109))]) hx hb dX7_readsLine_100 rfl hl (by decide) rfl (fun ls hl => ?_)
        refine lv_aload_n hx hb dX7_readsLine_101 rfl (lv_at hl 2 rfl) ?_
        refine lv_iconst (v := (0 : Int32)) hx hb dX7_readsLine_102 (by decide) ?_
        refine lv_bipush (v := (9 : Int32)) hx hb dX7_readsLine_103 (by decide) ?_
        obtain ⟨r105, hr105, hM⟩ := h_b hM
        refine a_callV (σ' := aG r105.2) (v := (some (.int r105.1))) (As := fun ad => [.int (0 : Int32), .int (9 : Int32)]) (rest := []) (o := 109) C hw (c_X7_number l hr105) k_X7_number wM_X7_98 ⟨⟨rfl, rfl⟩, ⟨Nat.le_of_ble_eq_true rfl, Nat.le_of_ble_eq_true rfl⟩⟩ rfl (by decide) rfl rfl rfl hl rfl (Nat.le_of_ble_eq_true rfl) dX7_readsLine_105 ⟨Nat.zero_le _, Nat.zero_le _⟩ (fun H locs hw => ?_)
        refine lv_istore_n (lv' := [(3, .int r105.1), (2, .int r97.1), (1, .int (gI r1.2 109 4)), (0, .ref (ad 109))]) hx hb dX7_readsLine_108 rfl hl (by decide) rfl (fun ls hl => ?_)
        refine lv_aload_n hx hb dX7_readsLine_109 rfl (lv_at hl 3 rfl) ?_
        refine lv_iconst (v := (1 : Int32)) hx hb dX7_readsLine_110 (by decide) ?_
        refine lv_bipush (v := (9 : Int32)) hx hb dX7_readsLine_111 (by decide) ?_
        obtain ⟨r113, hr113, hM⟩ := h_b hM
        refine a_callV (σ' := aG r113.2) (v := (some (.int r113.1))) (As := fun ad => [.int (1 : Int32), .int (9 : Int32)]) (rest := []) (o := 109) C hw (c_X7_number l hr113) k_X7_number wM_X7_98 ⟨⟨rfl, rfl⟩, ⟨Nat.le_of_ble_eq_true rfl, Nat.le_of_ble_eq_true rfl⟩⟩ rfl (by decide) rfl rfl rfl hl rfl (Nat.le_of_ble_eq_true rfl) dX7_readsLine_113 ⟨Nat.zero_le _, Nat.zero_le _⟩ (fun H locs hw => ?_)
        refine lv_istore (lv' := [(4, .int r113.1), (3, .int r105.1), (2, .int r97.1), (1, .int (gI r1.2 109 4)), (0, .ref (ad 109))]) hx hb dX7_readsLine_116 hl (by decide) rfl (fun ls hl => ?_)
        refine lv_aload_n hx hb dX7_readsLine_118 rfl (lv_at hl 4 rfl) ?_
        obtain ⟨r119, hr119, hM⟩ := h_b hM
        refine a_callV (σ' := aG r119.2) (v := (some (.int r119.1))) (As := fun ad => []) (rest := []) (o := 109) C hw (c_X7_fine l hr119) k_X7_fine wM_X7_64 ⟨⟨rfl, rfl⟩, ⟨Nat.le_of_ble_eq_true rfl, Nat.le_of_ble_eq_true rfl⟩⟩ rfl (by decide) rfl rfl rfl hl rfl (Nat.le_of_ble_eq_true rfl) dX7_readsLine_119 ⟨Nat.zero_le _, Nat.zero_le _⟩ (fun H locs hw => ?_)
        refine lv_if_eq (tgt := 146) hx hb dX7_readsLine_122 (by decide) (fun hc => ?_) (fun hc => ?_)
        · replace hM := h_t hc hM
          refine lv_goto (tgt := 285) hx hb dX7_readsLine_146 (by decide) ?_
          refine lv_aload_n hx hb dX7_readsLine_285 rfl (lv_at hl 4 rfl) ?_
          refine lv_bipush (v := (59 : Int32)) hx hb dX7_readsLine_286 (by decide) ?_
          obtain ⟨r288, hr288, hM⟩ := h_b hM
          refine a_callV (σ' := aG r288) (v := none) (As := fun ad => [.int (59 : Int32)]) (rest := []) (o := 109) C hw (c_X7_must l hr288) k_X7_must wM_X7_120 ⟨⟨rfl, rfl⟩, ⟨Nat.le_of_ble_eq_true rfl, Nat.le_of_ble_eq_true rfl⟩⟩ rfl (by decide) rfl rfl rfl hl rfl (Nat.le_of_ble_eq_true rfl) dX7_readsLine_288 ⟨Nat.zero_le _, Nat.zero_le _⟩ (fun H locs hw => ?_)
          cases h_e hM
          exact a_vret C hw dX7_readsLine_291
        · replace hM := h_f hc hM
          refine lv_aload_n hx hb dX7_readsLine_125 rfl (lv_at hl 4 rfl) ?_
          refine a_getp (q := 113) (σ := aG r119.2) (o := 109) (T := TX7) (N := 20) C wU_X7 hw rfl (by decide) rfl 10 (by decide) rfl wF_X7_23 (aG_P rfl rfl) dX7_readsLine_126 ?_
          refine lv_bipush (v := (89 : Int32)) hx hb dX7_readsLine_129 (by decide) ?_
          refine lv_iload_n hx hb dX7_readsLine_131 rfl (lv_at hl 2 rfl) ?_
          refine lv_iadd hx hb dX7_readsLine_132 ?_
          refine lv_iload_n hx hb dX7_readsLine_133 rfl (lv_at hl 1 rfl) ?_
          obtain ⟨hi, hM⟩ := h_i hM
          refine a_iast (σ := aG r119.2) (o := 113) C hw rfl hi rfl dX7_readsLine_134 (fun H locs hw => ?_)
          have hw : aW D dA ad adV (aG (pI r119.2 113 ((89 : Int32) + r97.1).toNatClampNeg r105.1)) A s H locs := hw
          refine lv_aload_n hx hb dX7_readsLine_135 rfl (lv_at hl 4 rfl) ?_
          refine a_getp (q := 113) (σ := aG (pI r119.2 113 ((89 : Int32) + r97.1).toNatClampNeg r105.1)) (o := 109) (T := TX7) (N := 20) C wU_X7 hw rfl (by decide) rfl 10 (by decide) rfl wF_X7_23 (aG_P rfl rfl) dX7_readsLine_136 ?_
          refine lv_bipush (v := (94 : Int32)) hx hb dX7_readsLine_139 (by decide) ?_
          refine lv_iload_n hx hb dX7_readsLine_141 rfl (lv_at hl 2 rfl) ?_
          refine lv_iadd hx hb dX7_readsLine_142 ?_
          refine lv_iload hx hb dX7_readsLine_143 (lv_at hl 0 rfl) ?_
          obtain ⟨hi, hM⟩ := h_i hM
          refine a_iast (σ := aG (pI r119.2 113 ((89 : Int32) + r97.1).toNatClampNeg r105.1)) (o := 113) C hw rfl hi rfl dX7_readsLine_145 (fun H locs hw => ?_)
          have hw : aW D dA ad adV (aG (pI (pI r119.2 113 ((89 : Int32) + r97.1).toNatClampNeg r105.1) 113 ((94 : Int32) + r97.1).toNatClampNeg r113.1)) A s H locs := hw
          refine lv_goto (tgt := 285) hx hb dX7_readsLine_146 (by decide) ?_
          refine lv_aload_n hx hb dX7_readsLine_285 rfl (lv_at hl 4 rfl) ?_
          refine lv_bipush (v := (59 : Int32)) hx hb dX7_readsLine_286 (by decide) ?_
          obtain ⟨r288, hr288, hM⟩ := h_b hM
          refine a_callV (σ' := aG r288) (v := none) (As := fun ad => [.int (59 : Int32)]) (rest := []) (o := 109) C hw (c_X7_must l hr288) k_X7_must wM_X7_120 ⟨⟨rfl, rfl⟩, ⟨Nat.le_of_ble_eq_true rfl, Nat.le_of_ble_eq_true rfl⟩⟩ rfl (by decide) rfl rfl rfl hl rfl (Nat.le_of_ble_eq_true rfl) dX7_readsLine_288 ⟨Nat.zero_le _, Nat.zero_le _⟩ (fun H locs hw => ?_)
          cases h_e hM
          exact a_vret C hw dX7_readsLine_291
    · replace hM := h_f hc hM
      refine lv_aload_n hx hb dX7_readsLine_44 rfl (lv_at hl 1 rfl) ?_
      refine a_getp (q := 113) (σ := aG r38.2) (o := 109) (T := TX7) (N := 20) C wU_X7 hw rfl (by decide) rfl 10 (by decide) rfl wF_X7_23 (aG_P rfl rfl) dX7_readsLine_45 ?_
      refine lv_iconst (v := (1 : Int32)) hx hb dX7_readsLine_48 (by decide) ?_
      refine a_iald (σ := aG r38.2) (o := 113) C hw rfl (aIn_v (by decide)) (show (1 : Int32).toNatClampNeg = 1 by decide) dX7_readsLine_49 ?_
      refine lv_bipush (v := (15 : Int32)) hx hb dX7_readsLine_50 (by decide) ?_
      refine lv_icmp_ne (tgt := 64) hx hb dX7_readsLine_52 (by decide) (fun hc => ?_) (fun hc => ?_)
      · replace hM := h_f hc hM
        refine lv_aload_n hx hb dX7_readsLine_64 rfl (lv_at hl 1 rfl) ?_
        refine a_getp (q := 113) (σ := aG r38.2) (o := 109) (T := TX7) (N := 20) C wU_X7 hw rfl (by decide) rfl 10 (by decide) rfl wF_X7_23 (aG_P rfl rfl) dX7_readsLine_65 ?_
        refine lv_iconst (v := (1 : Int32)) hx hb dX7_readsLine_68 (by decide) ?_
        refine lv_dup2_11 hx hb dX7_readsLine_69 rfl rfl ?_
        refine a_iald (σ := aG r38.2) (o := 113) C hw rfl (aIn_v (by decide)) (show (1 : Int32).toNatClampNeg = 1 by decide) dX7_readsLine_70 ?_
        refine lv_iconst (v := (1 : Int32)) hx hb dX7_readsLine_71 (by decide) ?_
        refine lv_iadd hx hb dX7_readsLine_72 ?_
        refine a_iast (σ := aG r38.2) (o := 113) C hw rfl (aIn_v (by decide)) (show (1 : Int32).toNatClampNeg = 1 by decide) dX7_readsLine_73 (fun H locs hw => ?_)
        have hw : aW D dA ad adV (aG (pI r38.2 113 1 ((gI r38.2 113 1) + (1 : Int32)))) A s H locs := hw
        refine lv_aload_n hx hb dX7_readsLine_74 rfl (lv_at hl 1 rfl) ?_
        refine lv_aload_n hx hb dX7_readsLine_75 rfl (lv_at hl 1 rfl) ?_
        refine a_getp (q := 113) (σ := aG (pI r38.2 113 1 ((gI r38.2 113 1) + (1 : Int32)))) (o := 109) (T := TX7) (N := 20) C wU_X7 hw rfl (by decide) rfl 10 (by decide) rfl wF_X7_23 (aG_P rfl rfl) dX7_readsLine_76 ?_
        refine lv_iconst (v := (1 : Int32)) hx hb dX7_readsLine_79 (by decide) ?_
        refine a_iald (σ := aG (pI r38.2 113 1 ((gI r38.2 113 1) + (1 : Int32)))) (o := 113) C hw rfl (aIn_v (by decide)) (show (1 : Int32).toNatClampNeg = 1 by decide) dX7_readsLine_80 ?_
        obtain ⟨r81, hr81, hM⟩ := h_b hM
        refine a_callV (σ' := aG r81) (v := none) (As := fun ad => [.int (gI (pI r38.2 113 1 ((gI r38.2 113 1) + (1 : Int32))) 113 1)]) (rest := []) (o := 109) C hw (c_X7_values l hr81) k_X7_values wM_X7_148 ⟨⟨rfl, rfl⟩, ⟨Nat.le_of_ble_eq_true rfl, Nat.le_of_ble_eq_true rfl⟩⟩ rfl (by decide) rfl rfl rfl hl rfl (Nat.le_of_ble_eq_true rfl) dX7_readsLine_81 ⟨Nat.zero_le _, Nat.zero_le _⟩ (fun H locs hw => ?_)
        refine lv_goto (tgt := 285) hx hb dX7_readsLine_84 (by decide) ?_
        refine lv_aload_n hx hb dX7_readsLine_285 rfl (lv_at hl 1 rfl) ?_
        refine lv_bipush (v := (59 : Int32)) hx hb dX7_readsLine_286 (by decide) ?_
        obtain ⟨r288, hr288, hM⟩ := h_b hM
        refine a_callV (σ' := aG r288) (v := none) (As := fun ad => [.int (59 : Int32)]) (rest := []) (o := 109) C hw (c_X7_must l hr288) k_X7_must wM_X7_120 ⟨⟨rfl, rfl⟩, ⟨Nat.le_of_ble_eq_true rfl, Nat.le_of_ble_eq_true rfl⟩⟩ rfl (by decide) rfl rfl rfl hl rfl (Nat.le_of_ble_eq_true rfl) dX7_readsLine_288 ⟨Nat.zero_le _, Nat.zero_le _⟩ (fun H locs hw => ?_)
        cases h_e hM
        exact a_vret C hw dX7_readsLine_291
      · replace hM := h_t hc hM
        refine lv_aload_n hx hb dX7_readsLine_55 rfl (lv_at hl 1 rfl) ?_
        refine lv_iconst (v := (3 : Int32)) hx hb dX7_readsLine_56 (by decide) ?_
        refine lv_iload_n hx hb dX7_readsLine_57 rfl (lv_at hl 0 rfl) ?_
        obtain ⟨r58, hr58, hM⟩ := h_b hM
        refine a_callV (σ' := aG r58) (v := none) (As := fun ad => [.int (3 : Int32), .int (gI r1.2 109 4)]) (rest := []) (o := 109) C hw (c_X7_wrong l hr58) k_X7_wrong wM_X7_85 ⟨⟨rfl, rfl⟩, ⟨Nat.le_of_ble_eq_true rfl, Nat.le_of_ble_eq_true rfl⟩⟩ rfl (by decide) rfl rfl rfl hl rfl (Nat.le_of_ble_eq_true rfl) dX7_readsLine_58 ⟨Nat.zero_le _, Nat.zero_le _⟩ (fun H locs hw => ?_)
        refine lv_goto (tgt := 285) hx hb dX7_readsLine_61 (by decide) ?_
        refine lv_aload_n hx hb dX7_readsLine_285 rfl (lv_at hl 1 rfl) ?_
        refine lv_bipush (v := (59 : Int32)) hx hb dX7_readsLine_286 (by decide) ?_
        obtain ⟨r288, hr288, hM⟩ := h_b hM
        refine a_callV (σ' := aG r288) (v := none) (As := fun ad => [.int (59 : Int32)]) (rest := []) (o := 109) C hw (c_X7_must l hr288) k_X7_must wM_X7_120 ⟨⟨rfl, rfl⟩, ⟨Nat.le_of_ble_eq_true rfl, Nat.le_of_ble_eq_true rfl⟩⟩ rfl (by decide) rfl rfl rfl hl rfl (Nat.le_of_ble_eq_true rfl) dX7_readsLine_288 ⟨Nat.zero_le _, Nat.zero_le _⟩ (fun H locs hw => ?_)
        cases h_e hM
        exact a_vret C hw dX7_readsLine_291
  · replace hM := h_f hc hM
    refine lv_aload_n hx hb dX7_readsLine_20 rfl (lv_at hl 1 rfl) ?_
    refine lv_iconst (v := (0 : Int32)) hx hb dX7_readsLine_21 (by decide) ?_
    obtain ⟨r22, hr22, hM⟩ := h_b hM
    refine a_callV (σ' := aG r22) (v := none) (As := fun ad => [.int (0 : Int32)]) (rest := []) (o := 109) C hw (c_X7_values l hr22) k_X7_values wM_X7_148 ⟨⟨rfl, rfl⟩, ⟨Nat.le_of_ble_eq_true rfl, Nat.le_of_ble_eq_true rfl⟩⟩ rfl (by decide) rfl rfl rfl hl rfl (Nat.le_of_ble_eq_true rfl) dX7_readsLine_22 ⟨Nat.zero_le _, Nat.zero_le _⟩ (fun H locs hw => ?_)
    refine lv_aload_n hx hb dX7_readsLine_25 rfl (lv_at hl 1 rfl) ?_
    refine a_getp (q := 113) (σ := aG r22) (o := 109) (T := TX7) (N := 20) C wU_X7 hw rfl (by decide) rfl 10 (by decide) rfl wF_X7_23 (aG_P rfl rfl) dX7_readsLine_26 ?_
    refine lv_iconst (v := (2 : Int32)) hx hb dX7_readsLine_29 (by decide) ?_
    refine lv_iconst (v := (1 : Int32)) hx hb dX7_readsLine_30 (by decide) ?_
    refine a_iast (σ := aG r22) (o := 113) C hw rfl (aIn_v (by decide)) (show (2 : Int32).toNatClampNeg = 2 by decide) dX7_readsLine_31 (fun H locs hw => ?_)
    have hw : aW D dA ad adV (aG (pI r22 113 2 (1 : Int32))) A s H locs := hw
    refine lv_goto (tgt := 285) hx hb dX7_readsLine_32 (by decide) ?_
    refine lv_aload_n hx hb dX7_readsLine_285 rfl (lv_at hl 1 rfl) ?_
    refine lv_bipush (v := (59 : Int32)) hx hb dX7_readsLine_286 (by decide) ?_
    obtain ⟨r288, hr288, hM⟩ := h_b hM
    refine a_callV (σ' := aG r288) (v := none) (As := fun ad => [.int (59 : Int32)]) (rest := []) (o := 109) C hw (c_X7_must l hr288) k_X7_must wM_X7_120 ⟨⟨rfl, rfl⟩, ⟨Nat.le_of_ble_eq_true rfl, Nat.le_of_ble_eq_true rfl⟩⟩ rfl (by decide) rfl rfl rfl hl rfl (Nat.le_of_ble_eq_true rfl) dX7_readsLine_288 ⟨Nat.zero_le _, Nat.zero_le _⟩ (fun H locs hw => ?_)
    cases h_e hM
    exact a_vret C hw dX7_readsLine_291
def rm_X7_text : Room := { frames := 104, cells := 0, slots := 0, locals := 2368 }
set_option maxHeartbeats 400000 in
set_option maxRecDepth 100000 in
theorem tl_X7_text_207 (l : Launch) {p : Program} {e : Env} {s : State} {m : MethodId} {args : Array Value} {below : List Frame} {meth : Method} {c : Code} {D : va_G} {dA : Nat → ClassId} {ad adV : Nat → Nat} {A : Nat → Prop} (C : aX p m c cX7_text 3 s args aTs RX7 meth (some .int)) {res : Int32 × iS} : ∀ (n : Nat) (y1 : Int32) (y2 : Int32) {ι : iS}, l_X7_text_207 n y1 y2 ι = some res → ∀ {H : Heap} {locs : List Loc} {ls : Array Slot}, aW D dA ad adV (aG ι) A s H locs → lv_has ls 3 [(0, .ref (ad 109)), (1, .int y1), (2, .int y2)] → W p l e rm_X7_text s m args below meth c H locs 0 0 (MQ below (aQ D dA ad (aG res.2) A (some (.int res.1))) args s 0 0 A) (F0 m 207 ls []) := by
  have hx := C.1.1
  have hb := C.1.2.1
  have hml := C.1.2.2.1
  have hown := C.1.2.2.2.1
  have hts := C.1.2.2.2.2
  intro n
  induction n with
  | zero => intro y1 y2 ι hM; simp [l_X7_text_207] at hM
  | succ n ih =>
    intro y1 y2 ι hM H locs ls hw hl
    rw [l_X7_text_207] at hM
    refine lv_iload_n hx hb dX7_text_207 rfl (lv_at hl 2 rfl) ?_
    refine lv_aload_n hx hb dX7_text_208 rfl (lv_at hl 0 rfl) ?_
    refine a_getp (q := 113) (σ := aG ι) (o := 109) (T := TX7) (N := 20) C wU_X7 hw rfl (by decide) rfl 10 (by decide) rfl wF_X7_23 (aG_P rfl rfl) dX7_text_209 ?_
    refine lv_iconst (v := (3 : Int32)) hx hb dX7_text_212 (by decide) ?_
    refine a_iald (σ := aG ι) (o := 113) C hw rfl (aIn_v (by decide)) (show (3 : Int32).toNatClampNeg = 3 by decide) dX7_text_213 ?_
    refine lv_icmp_ge (tgt := 233) hx hb dX7_text_214 (by decide) (fun hc => ?_) (fun hc => ?_)
    · replace hM := h_t hc hM
      refine lv_aload_n hx hb dX7_text_233 rfl (lv_at hl 0 rfl) ?_
      obtain ⟨r234, hr234, hM⟩ := h_b hM
      refine a_callV (σ' := aG r234) (v := none) (As := fun ad => []) (rest := []) (o := 109) C hw (c_X7_remembers l hr234) k_X7_remembers wM_X7_173 ⟨⟨rfl, rfl⟩, ⟨Nat.le_of_ble_eq_true rfl, Nat.le_of_ble_eq_true rfl⟩⟩ rfl (by decide) rfl rfl rfl hl rfl (Nat.le_of_ble_eq_true rfl) dX7_text_234 ⟨Nat.zero_le _, Nat.zero_le _⟩ (fun H locs hw => ?_)
      refine lv_aload_n hx hb dX7_text_237 rfl (lv_at hl 0 rfl) ?_
      refine a_getp (q := 113) (σ := aG r234) (o := 109) (T := TX7) (N := 20) C wU_X7 hw rfl (by decide) rfl 10 (by decide) rfl wF_X7_23 (aG_P rfl rfl) dX7_text_238 ?_
      refine lv_aload_n hx hb dX7_text_241 rfl (lv_at hl 0 rfl) ?_
      refine a_getp (q := 112) (σ := aG r234) (o := 109) (T := TX7) (N := 20) C wU_X7 hw rfl (by decide) rfl 9 (by decide) rfl wF_X7_20 (aG_P rfl rfl) dX7_text_242 ?_
      obtain ⟨r245, hr245, hM⟩ := h_b hM
      refine a_callS  (σ' := aG r245) (v := none) (as := fun ad => [.ref (ad 113), .ref (ad 112)]) (rest := []) C hw (c_X7_copies l (rfl) (rfl) hr245) k_X7_copies wM_X7_176 ⟨⟨rfl, rfl⟩, ⟨Nat.le_of_ble_eq_true rfl, Nat.le_of_ble_eq_true rfl⟩⟩ rfl hl rfl (Nat.le_of_ble_eq_true rfl) dX7_text_245 ⟨Nat.zero_le _, Nat.zero_le _⟩ (fun H locs hw => ?_)
      refine lv_aload_n hx hb dX7_text_248 rfl (lv_at hl 0 rfl) ?_
      obtain ⟨r249, hr249, hM⟩ := h_b hM
      refine a_callV (σ' := aG r249.2) (v := (some (.int r249.1))) (As := fun ad => []) (rest := []) (o := 109) C hw (c_X7_persons l hr249) k_X7_persons wM_X7_180 ⟨⟨rfl, rfl⟩, ⟨Nat.le_of_ble_eq_true rfl, Nat.le_of_ble_eq_true rfl⟩⟩ rfl (by decide) rfl rfl rfl hl rfl (Nat.le_of_ble_eq_true rfl) dX7_text_249 ⟨Nat.zero_le _, Nat.zero_le _⟩ (fun H locs hw => ?_)
      cases h_e hM
      exact a_iret C hw dX7_text_252
    · replace hM := h_f hc hM
      refine lv_aload_n hx hb dX7_text_217 rfl (lv_at hl 0 rfl) ?_
      refine a_getp (q := 113) (σ := aG ι) (o := 109) (T := TX7) (N := 20) C wU_X7 hw rfl (by decide) rfl 10 (by decide) rfl wF_X7_23 (aG_P rfl rfl) dX7_text_218 ?_
      refine lv_bipush (v := (99 : Int32)) hx hb dX7_text_221 (by decide) ?_
      refine lv_iload_n hx hb dX7_text_223 rfl (lv_at hl 2 rfl) ?_
      refine lv_iadd hx hb dX7_text_224 ?_
      refine lv_iload_n hx hb dX7_text_225 rfl (lv_at hl 2 rfl) ?_
      obtain ⟨hi, hM⟩ := h_i hM
      refine a_iast (σ := aG ι) (o := 113) C hw rfl hi rfl dX7_text_226 (fun H locs hw => ?_)
      have hw : aW D dA ad adV (aG (pI ι 113 ((99 : Int32) + y2).toNatClampNeg y2)) A s H locs := hw
      refine lv_iinc (v := (y2 + 1)) (lv' := [(2, .int (y2 + 1)), (0, .ref (ad 109)), (1, .int y1)]) hx hb dX7_text_227 hl (k := 2) rfl rfl (by decide) rfl (fun ls hl => ?_)
      refine lv_goto (tgt := 207) hx hb dX7_text_230 (by decide) ?_
      exact ih (y1) ((y2 + 1)) hM hw (lv_sub hl [1, 2, 0] rfl)
set_option maxHeartbeats 400000 in
set_option maxRecDepth 100000 in
theorem tl_X7_text_116 (l : Launch) {p : Program} {e : Env} {s : State} {m : MethodId} {args : Array Value} {below : List Frame} {meth : Method} {c : Code} {D : va_G} {dA : Nat → ClassId} {ad adV : Nat → Nat} {A : Nat → Prop} (C : aX p m c cX7_text 3 s args aTs RX7 meth (some .int)) {res : Int32 × iS} : ∀ (n : Nat) (y1 : Int32) {ι : iS}, l_X7_text_116 n y1 ι = some res → ∀ {H : Heap} {locs : List Loc} {ls : Array Slot}, aW D dA ad adV (aG ι) A s H locs → lv_has ls 3 [(0, .ref (ad 109)), (1, .int y1)] → W p l e rm_X7_text s m args below meth c H locs 0 0 (MQ below (aQ D dA ad (aG res.2) A (some (.int res.1))) args s 0 0 A) (F0 m 116 ls []) := by
  have hx := C.1.1
  have hb := C.1.2.1
  have hml := C.1.2.2.1
  have hown := C.1.2.2.2.1
  have hts := C.1.2.2.2.2
  intro n
  induction n with
  | zero => intro y1 ι hM; simp [l_X7_text_116] at hM
  | succ n ih =>
    intro y1 ι hM H locs ls hw hl
    rw [l_X7_text_116] at hM
    refine lv_aload_n hx hb dX7_text_116 rfl (lv_at hl 0 rfl) ?_
    obtain ⟨r117, hr117, hM⟩ := h_b hM
    refine a_callV (σ' := aG r117.2) (v := (some (.int r117.1))) (As := fun ad => []) (rest := []) (o := 109) C hw (c_X7_fine l hr117) k_X7_fine wM_X7_64 ⟨⟨rfl, rfl⟩, ⟨Nat.le_of_ble_eq_true rfl, Nat.le_of_ble_eq_true rfl⟩⟩ rfl (by decide) rfl rfl rfl hl rfl (Nat.le_of_ble_eq_true rfl) dX7_text_117 ⟨Nat.zero_le _, Nat.zero_le _⟩ (fun H locs hw => ?_)
    refine lv_if_eq (tgt := 138) hx hb dX7_text_120 (by decide) (fun hc => ?_) (fun hc => ?_)
    · replace hM := h_t hc hM
      refine lv_aload_n hx hb dX7_text_138 rfl (lv_at hl 0 rfl) ?_
      obtain ⟨r139, hr139, hM⟩ := h_b hM
      refine a_callV (σ' := aG r139.2) (v := (some (.int r139.1))) (As := fun ad => []) (rest := []) (o := 109) C hw (c_X7_fine l hr139) k_X7_fine wM_X7_64 ⟨⟨rfl, rfl⟩, ⟨Nat.le_of_ble_eq_true rfl, Nat.le_of_ble_eq_true rfl⟩⟩ rfl (by decide) rfl rfl rfl hl rfl (Nat.le_of_ble_eq_true rfl) dX7_text_139 ⟨Nat.zero_le _, Nat.zero_le _⟩ (fun H locs hw => ?_)
      refine lv_if_eq (tgt := 163) hx hb dX7_text_142 (by decide) (fun hc => ?_) (fun hc => ?_)
      · replace hM := h_t hc hM
        refine lv_aload_n hx hb dX7_text_163 rfl (lv_at hl 0 rfl) ?_
        refine lv_aload_n hx hb dX7_text_164 rfl (lv_at hl 0 rfl) ?_
        refine a_geti (σ := aG r139.2) (o := 109) (T := TX7) (N := 20) C wU_X7 hw rfl (by decide) rfl 7 (by decide) rfl wF_X7_61 dX7_text_165 ?_
        refine a_puti (ty := .int) (σ := aG r139.2) (o := 109) (T := TX7) (N := 20) (ty0 := tyX7) C wU_X7 tyX7_ok nmX7 hw rfl (by decide) rfl 5 (by decide) rfl wF_X7_13 rfl (by decide +kernel) rfl rfl dX7_text_168 (fun H locs hw => ?_)
        have hw : aW D dA ad adV (aG (pI r139.2 109 5 (gI r139.2 109 7))) A s H locs := hw
        refine lv_aload_n hx hb dX7_text_171 rfl (lv_at hl 0 rfl) ?_
        obtain ⟨r172, hr172, hM⟩ := h_b hM
        refine a_callV (σ' := aG r172.2) (v := (some (.int r172.1))) (As := fun ad => []) (rest := []) (o := 109) C hw (c_X7_fine l hr172) k_X7_fine wM_X7_64 ⟨⟨rfl, rfl⟩, ⟨Nat.le_of_ble_eq_true rfl, Nat.le_of_ble_eq_true rfl⟩⟩ rfl (by decide) rfl rfl rfl hl rfl (Nat.le_of_ble_eq_true rfl) dX7_text_172 ⟨Nat.zero_le _, Nat.zero_le _⟩ (fun H locs hw => ?_)
        refine lv_if_ne (tgt := 186) hx hb dX7_text_175 (by decide) (fun hc => ?_) (fun hc => ?_)
        · replace hM := h_f hc hM
          refine lv_aload_n hx hb dX7_text_186 rfl (lv_at hl 0 rfl) ?_
          refine a_getp (q := 113) (σ := aG r172.2) (o := 109) (T := TX7) (N := 20) C wU_X7 hw rfl (by decide) rfl 10 (by decide) rfl wF_X7_23 (aG_P rfl rfl) dX7_text_187 ?_
          refine lv_iconst (v := (3 : Int32)) hx hb dX7_text_190 (by decide) ?_
          refine lv_bipush (v := (8 : Int32)) hx hb dX7_text_191 (by decide) ?_
          refine lv_iconst (v := (1 : Int32)) hx hb dX7_text_193 (by decide) ?_
          refine lv_aload_n hx hb dX7_text_194 rfl (lv_at hl 0 rfl) ?_
          refine a_getp (q := 113) (σ := aG r172.2) (o := 109) (T := TX7) (N := 20) C wU_X7 hw rfl (by decide) rfl 10 (by decide) rfl wF_X7_23 (aG_P rfl rfl) dX7_text_195 ?_
          refine lv_iconst (v := (1 : Int32)) hx hb dX7_text_198 (by decide) ?_
          refine a_iald (σ := aG r172.2) (o := 113) C hw rfl (aIn_v (by decide)) (show (1 : Int32).toNatClampNeg = 1 by decide) dX7_text_199 ?_
          refine lv_iadd hx hb dX7_text_200 ?_
          obtain ⟨r201, hr201, hM⟩ := h_b hM
          refine a_callS  (σ' := aG r201.2) (v := (some (.int r201.1))) (as := fun ad => [.int (8 : Int32), .int ((1 : Int32) + (gI r172.2 113 1))]) (rest := [.int (3 : Int32), .ref (ad 113)]) C hw (c_X7_less l hr201) k_X7_less wM_X7_94 ⟨⟨rfl, rfl⟩, ⟨Nat.le_of_ble_eq_true rfl, Nat.le_of_ble_eq_true rfl⟩⟩ rfl hl rfl (Nat.le_of_ble_eq_true rfl) dX7_text_201 ⟨Nat.zero_le _, Nat.zero_le _⟩ (fun H locs hw => ?_)
          refine a_iast (σ := aG r201.2) (o := 113) C hw rfl (aIn_v (by decide)) (show (3 : Int32).toNatClampNeg = 3 by decide) dX7_text_204 (fun H locs hw => ?_)
          have hw : aW D dA ad adV (aG (pI r201.2 113 3 r201.1)) A s H locs := hw
          refine lv_iconst (v := (0 : Int32)) hx hb dX7_text_205 (by decide) ?_
          refine lv_istore_n (lv' := [(2, .int (0 : Int32)), (0, .ref (ad 109)), (1, .int y1)]) hx hb dX7_text_206 rfl hl (by decide) rfl (fun ls hl => ?_)
          exact tl_X7_text_207 l C aF (y1) ((0 : Int32)) hM hw (lv_sub hl [1, 2, 0] rfl)
        · replace hM := h_t hc hM
          refine lv_aload_n hx hb dX7_text_178 rfl (lv_at hl 0 rfl) ?_
          refine a_geti (σ := aG r172.2) (o := 109) (T := TX7) (N := 20) C wU_X7 hw rfl (by decide) rfl 6 (by decide) rfl wF_X7_58 dX7_text_179 ?_
          refine lv_bipush (v := (10 : Int32)) hx hb dX7_text_182 (by decide) ?_
          refine lv_isub hx hb dX7_text_184 ?_
          cases h_e hM
          exact a_iret C hw dX7_text_185
      · replace hM := h_f hc hM
        refine lv_aload_n hx hb dX7_text_145 rfl (lv_at hl 0 rfl) ?_
        refine a_getp (q := 113) (σ := aG r139.2) (o := 109) (T := TX7) (N := 20) C wU_X7 hw rfl (by decide) rfl 10 (by decide) rfl wF_X7_23 (aG_P rfl rfl) dX7_text_146 ?_
        refine lv_iconst (v := (2 : Int32)) hx hb dX7_text_149 (by decide) ?_
        refine a_iald (σ := aG r139.2) (o := 113) C hw rfl (aIn_v (by decide)) (show (2 : Int32).toNatClampNeg = 2 by decide) dX7_text_150 ?_
        refine lv_if_ne (tgt := 163) hx hb dX7_text_151 (by decide) (fun hc => ?_) (fun hc => ?_)
        · replace hM := h_f hc hM
          refine lv_aload_n hx hb dX7_text_163 rfl (lv_at hl 0 rfl) ?_
          refine lv_aload_n hx hb dX7_text_164 rfl (lv_at hl 0 rfl) ?_
          refine a_geti (σ := aG r139.2) (o := 109) (T := TX7) (N := 20) C wU_X7 hw rfl (by decide) rfl 7 (by decide) rfl wF_X7_61 dX7_text_165 ?_
          refine a_puti (ty := .int) (σ := aG r139.2) (o := 109) (T := TX7) (N := 20) (ty0 := tyX7) C wU_X7 tyX7_ok nmX7 hw rfl (by decide) rfl 5 (by decide) rfl wF_X7_13 rfl (by decide +kernel) rfl rfl dX7_text_168 (fun H locs hw => ?_)
          have hw : aW D dA ad adV (aG (pI r139.2 109 5 (gI r139.2 109 7))) A s H locs := hw
          refine lv_aload_n hx hb dX7_text_171 rfl (lv_at hl 0 rfl) ?_
          obtain ⟨r172, hr172, hM⟩ := h_b hM
          refine a_callV (σ' := aG r172.2) (v := (some (.int r172.1))) (As := fun ad => []) (rest := []) (o := 109) C hw (c_X7_fine l hr172) k_X7_fine wM_X7_64 ⟨⟨rfl, rfl⟩, ⟨Nat.le_of_ble_eq_true rfl, Nat.le_of_ble_eq_true rfl⟩⟩ rfl (by decide) rfl rfl rfl hl rfl (Nat.le_of_ble_eq_true rfl) dX7_text_172 ⟨Nat.zero_le _, Nat.zero_le _⟩ (fun H locs hw => ?_)
          refine lv_if_ne (tgt := 186) hx hb dX7_text_175 (by decide) (fun hc => ?_) (fun hc => ?_)
          · replace hM := h_f hc hM
            refine lv_aload_n hx hb dX7_text_186 rfl (lv_at hl 0 rfl) ?_
            refine a_getp (q := 113) (σ := aG r172.2) (o := 109) (T := TX7) (N := 20) C wU_X7 hw rfl (by decide) rfl 10 (by decide) rfl wF_X7_23 (aG_P rfl rfl) dX7_text_187 ?_
            refine lv_iconst (v := (3 : Int32)) hx hb dX7_text_190 (by decide) ?_
            refine lv_bipush (v := (8 : Int32)) hx hb dX7_text_191 (by decide) ?_
            refine lv_iconst (v := (1 : Int32)) hx hb dX7_text_193 (by decide) ?_
            refine lv_aload_n hx hb dX7_text_194 rfl (lv_at hl 0 rfl) ?_
            refine a_getp (q := 113) (σ := aG r172.2) (o := 109) (T := TX7) (N := 20) C wU_X7 hw rfl (by decide) rfl 10 (by decide) rfl wF_X7_23 (aG_P rfl rfl) dX7_text_195 ?_
            refine lv_iconst (v := (1 : Int32)) hx hb dX7_text_198 (by decide) ?_
            refine a_iald (σ := aG r172.2) (o := 113) C hw rfl (aIn_v (by decide)) (show (1 : Int32).toNatClampNeg = 1 by decide) dX7_text_199 ?_
            refine lv_iadd hx hb dX7_text_200 ?_
            obtain ⟨r201, hr201, hM⟩ := h_b hM
            refine a_callS  (σ' := aG r201.2) (v := (some (.int r201.1))) (as := fun ad => [.int (8 : Int32), .int ((1 : Int32) + (gI r172.2 113 1))]) (rest := [.int (3 : Int32), .ref (ad 113)]) C hw (c_X7_less l hr201) k_X7_less wM_X7_94 ⟨⟨rfl, rfl⟩, ⟨Nat.le_of_ble_eq_true rfl, Nat.le_of_ble_eq_true rfl⟩⟩ rfl hl rfl (Nat.le_of_ble_eq_true rfl) dX7_text_201 ⟨Nat.zero_le _, Nat.zero_le _⟩ (fun H locs hw => ?_)
            refine a_iast (σ := aG r201.2) (o := 113) C hw rfl (aIn_v (by decide)) (show (3 : Int32).toNatClampNeg = 3 by decide) dX7_text_204 (fun H locs hw => ?_)
            have hw : aW D dA ad adV (aG (pI r201.2 113 3 r201.1)) A s H locs := hw
            refine lv_iconst (v := (0 : Int32)) hx hb dX7_text_205 (by decide) ?_
            refine lv_istore_n (lv' := [(2, .int (0 : Int32)), (0, .ref (ad 109)), (1, .int y1)]) hx hb dX7_text_206 rfl hl (by decide) rfl (fun ls hl => ?_)
            exact tl_X7_text_207 l C aF (y1) ((0 : Int32)) hM hw (lv_sub hl [1, 2, 0] rfl)
          · replace hM := h_t hc hM
            refine lv_aload_n hx hb dX7_text_178 rfl (lv_at hl 0 rfl) ?_
            refine a_geti (σ := aG r172.2) (o := 109) (T := TX7) (N := 20) C wU_X7 hw rfl (by decide) rfl 6 (by decide) rfl wF_X7_58 dX7_text_179 ?_
            refine lv_bipush (v := (10 : Int32)) hx hb dX7_text_182 (by decide) ?_
            refine lv_isub hx hb dX7_text_184 ?_
            cases h_e hM
            exact a_iret C hw dX7_text_185
        · replace hM := h_t hc hM
          refine lv_aload_n hx hb dX7_text_154 rfl (lv_at hl 0 rfl) ?_
          refine lv_iconst (v := (5 : Int32)) hx hb dX7_text_155 (by decide) ?_
          refine lv_aload_n hx hb dX7_text_156 rfl (lv_at hl 0 rfl) ?_
          refine a_geti (σ := aG r139.2) (o := 109) (T := TX7) (N := 20) C wU_X7 hw rfl (by decide) rfl 3 (by decide) rfl wF_X7_48 dX7_text_157 ?_
          obtain ⟨r160, hr160, hM⟩ := h_b hM
          refine a_callV (σ' := aG r160) (v := none) (As := fun ad => [.int (5 : Int32), .int (gI r139.2 109 3)]) (rest := []) (o := 109) C hw (c_X7_wrong l hr160) k_X7_wrong wM_X7_85 ⟨⟨rfl, rfl⟩, ⟨Nat.le_of_ble_eq_true rfl, Nat.le_of_ble_eq_true rfl⟩⟩ rfl (by decide) rfl rfl rfl hl rfl (Nat.le_of_ble_eq_true rfl) dX7_text_160 ⟨Nat.zero_le _, Nat.zero_le _⟩ (fun H locs hw => ?_)
          refine lv_aload_n hx hb dX7_text_163 rfl (lv_at hl 0 rfl) ?_
          refine lv_aload_n hx hb dX7_text_164 rfl (lv_at hl 0 rfl) ?_
          refine a_geti (σ := aG r160) (o := 109) (T := TX7) (N := 20) C wU_X7 hw rfl (by decide) rfl 7 (by decide) rfl wF_X7_61 dX7_text_165 ?_
          refine a_puti (ty := .int) (σ := aG r160) (o := 109) (T := TX7) (N := 20) (ty0 := tyX7) C wU_X7 tyX7_ok nmX7 hw rfl (by decide) rfl 5 (by decide) rfl wF_X7_13 rfl (by decide +kernel) rfl rfl dX7_text_168 (fun H locs hw => ?_)
          have hw : aW D dA ad adV (aG (pI r160 109 5 (gI r160 109 7))) A s H locs := hw
          refine lv_aload_n hx hb dX7_text_171 rfl (lv_at hl 0 rfl) ?_
          obtain ⟨r172, hr172, hM⟩ := h_b hM
          refine a_callV (σ' := aG r172.2) (v := (some (.int r172.1))) (As := fun ad => []) (rest := []) (o := 109) C hw (c_X7_fine l hr172) k_X7_fine wM_X7_64 ⟨⟨rfl, rfl⟩, ⟨Nat.le_of_ble_eq_true rfl, Nat.le_of_ble_eq_true rfl⟩⟩ rfl (by decide) rfl rfl rfl hl rfl (Nat.le_of_ble_eq_true rfl) dX7_text_172 ⟨Nat.zero_le _, Nat.zero_le _⟩ (fun H locs hw => ?_)
          refine lv_if_ne (tgt := 186) hx hb dX7_text_175 (by decide) (fun hc => ?_) (fun hc => ?_)
          · replace hM := h_f hc hM
            refine lv_aload_n hx hb dX7_text_186 rfl (lv_at hl 0 rfl) ?_
            refine a_getp (q := 113) (σ := aG r172.2) (o := 109) (T := TX7) (N := 20) C wU_X7 hw rfl (by decide) rfl 10 (by decide) rfl wF_X7_23 (aG_P rfl rfl) dX7_text_187 ?_
            refine lv_iconst (v := (3 : Int32)) hx hb dX7_text_190 (by decide) ?_
            refine lv_bipush (v := (8 : Int32)) hx hb dX7_text_191 (by decide) ?_
            refine lv_iconst (v := (1 : Int32)) hx hb dX7_text_193 (by decide) ?_
            refine lv_aload_n hx hb dX7_text_194 rfl (lv_at hl 0 rfl) ?_
            refine a_getp (q := 113) (σ := aG r172.2) (o := 109) (T := TX7) (N := 20) C wU_X7 hw rfl (by decide) rfl 10 (by decide) rfl wF_X7_23 (aG_P rfl rfl) dX7_text_195 ?_
            refine lv_iconst (v := (1 : Int32)) hx hb dX7_text_198 (by decide) ?_
            refine a_iald (σ := aG r172.2) (o := 113) C hw rfl (aIn_v (by decide)) (show (1 : Int32).toNatClampNeg = 1 by decide) dX7_text_199 ?_
            refine lv_iadd hx hb dX7_text_200 ?_
            obtain ⟨r201, hr201, hM⟩ := h_b hM
            refine a_callS  (σ' := aG r201.2) (v := (some (.int r201.1))) (as := fun ad => [.int (8 : Int32), .int ((1 : Int32) + (gI r172.2 113 1))]) (rest := [.int (3 : Int32), .ref (ad 113)]) C hw (c_X7_less l hr201) k_X7_less wM_X7_94 ⟨⟨rfl, rfl⟩, ⟨Nat.le_of_ble_eq_true rfl, Nat.le_of_ble_eq_true rfl⟩⟩ rfl hl rfl (Nat.le_of_ble_eq_true rfl) dX7_text_201 ⟨Nat.zero_le _, Nat.zero_le _⟩ (fun H locs hw => ?_)
            refine a_iast (σ := aG r201.2) (o := 113) C hw rfl (aIn_v (by decide)) (show (3 : Int32).toNatClampNeg = 3 by decide) dX7_text_204 (fun H locs hw => ?_)
            have hw : aW D dA ad adV (aG (pI r201.2 113 3 r201.1)) A s H locs := hw
            refine lv_iconst (v := (0 : Int32)) hx hb dX7_text_205 (by decide) ?_
            refine lv_istore_n (lv' := [(2, .int (0 : Int32)), (0, .ref (ad 109)), (1, .int y1)]) hx hb dX7_text_206 rfl hl (by decide) rfl (fun ls hl => ?_)
            exact tl_X7_text_207 l C aF (y1) ((0 : Int32)) hM hw (lv_sub hl [1, 2, 0] rfl)
          · replace hM := h_t hc hM
            refine lv_aload_n hx hb dX7_text_178 rfl (lv_at hl 0 rfl) ?_
            refine a_geti (σ := aG r172.2) (o := 109) (T := TX7) (N := 20) C wU_X7 hw rfl (by decide) rfl 6 (by decide) rfl wF_X7_58 dX7_text_179 ?_
            refine lv_bipush (v := (10 : Int32)) hx hb dX7_text_182 (by decide) ?_
            refine lv_isub hx hb dX7_text_184 ?_
            cases h_e hM
            exact a_iret C hw dX7_text_185
    · replace hM := h_f hc hM
      refine lv_aload_n hx hb dX7_text_123 rfl (lv_at hl 0 rfl) ?_
      obtain ⟨r124, hr124, hM⟩ := h_b hM
      refine a_callV (σ' := aG r124.2) (v := (some (.int r124.1))) (As := fun ad => []) (rest := []) (o := 109) C hw (c_X7_here l hr124) k_X7_here wM_X7_68 ⟨⟨rfl, rfl⟩, ⟨Nat.le_of_ble_eq_true rfl, Nat.le_of_ble_eq_true rfl⟩⟩ rfl (by decide) rfl rfl rfl hl rfl (Nat.le_of_ble_eq_true rfl) dX7_text_124 ⟨Nat.zero_le _, Nat.zero_le _⟩ (fun H locs hw => ?_)
      refine lv_iconst (v := (-1 : Int32)) hx hb dX7_text_127 (by decide) ?_
      refine lv_icmp_eq (tgt := 138) hx hb dX7_text_128 (by decide) (fun hc => ?_) (fun hc => ?_)
      · replace hM := h_t hc hM
        refine lv_aload_n hx hb dX7_text_138 rfl (lv_at hl 0 rfl) ?_
        obtain ⟨r139, hr139, hM⟩ := h_b hM
        refine a_callV (σ' := aG r139.2) (v := (some (.int r139.1))) (As := fun ad => []) (rest := []) (o := 109) C hw (c_X7_fine l hr139) k_X7_fine wM_X7_64 ⟨⟨rfl, rfl⟩, ⟨Nat.le_of_ble_eq_true rfl, Nat.le_of_ble_eq_true rfl⟩⟩ rfl (by decide) rfl rfl rfl hl rfl (Nat.le_of_ble_eq_true rfl) dX7_text_139 ⟨Nat.zero_le _, Nat.zero_le _⟩ (fun H locs hw => ?_)
        refine lv_if_eq (tgt := 163) hx hb dX7_text_142 (by decide) (fun hc => ?_) (fun hc => ?_)
        · replace hM := h_t hc hM
          refine lv_aload_n hx hb dX7_text_163 rfl (lv_at hl 0 rfl) ?_
          refine lv_aload_n hx hb dX7_text_164 rfl (lv_at hl 0 rfl) ?_
          refine a_geti (σ := aG r139.2) (o := 109) (T := TX7) (N := 20) C wU_X7 hw rfl (by decide) rfl 7 (by decide) rfl wF_X7_61 dX7_text_165 ?_
          refine a_puti (ty := .int) (σ := aG r139.2) (o := 109) (T := TX7) (N := 20) (ty0 := tyX7) C wU_X7 tyX7_ok nmX7 hw rfl (by decide) rfl 5 (by decide) rfl wF_X7_13 rfl (by decide +kernel) rfl rfl dX7_text_168 (fun H locs hw => ?_)
          have hw : aW D dA ad adV (aG (pI r139.2 109 5 (gI r139.2 109 7))) A s H locs := hw
          refine lv_aload_n hx hb dX7_text_171 rfl (lv_at hl 0 rfl) ?_
          obtain ⟨r172, hr172, hM⟩ := h_b hM
          refine a_callV (σ' := aG r172.2) (v := (some (.int r172.1))) (As := fun ad => []) (rest := []) (o := 109) C hw (c_X7_fine l hr172) k_X7_fine wM_X7_64 ⟨⟨rfl, rfl⟩, ⟨Nat.le_of_ble_eq_true rfl, Nat.le_of_ble_eq_true rfl⟩⟩ rfl (by decide) rfl rfl rfl hl rfl (Nat.le_of_ble_eq_true rfl) dX7_text_172 ⟨Nat.zero_le _, Nat.zero_le _⟩ (fun H locs hw => ?_)
          refine lv_if_ne (tgt := 186) hx hb dX7_text_175 (by decide) (fun hc => ?_) (fun hc => ?_)
          · replace hM := h_f hc hM
            refine lv_aload_n hx hb dX7_text_186 rfl (lv_at hl 0 rfl) ?_
            refine a_getp (q := 113) (σ := aG r172.2) (o := 109) (T := TX7) (N := 20) C wU_X7 hw rfl (by decide) rfl 10 (by decide) rfl wF_X7_23 (aG_P rfl rfl) dX7_text_187 ?_
            refine lv_iconst (v := (3 : Int32)) hx hb dX7_text_190 (by decide) ?_
            refine lv_bipush (v := (8 : Int32)) hx hb dX7_text_191 (by decide) ?_
            refine lv_iconst (v := (1 : Int32)) hx hb dX7_text_193 (by decide) ?_
            refine lv_aload_n hx hb dX7_text_194 rfl (lv_at hl 0 rfl) ?_
            refine a_getp (q := 113) (σ := aG r172.2) (o := 109) (T := TX7) (N := 20) C wU_X7 hw rfl (by decide) rfl 10 (by decide) rfl wF_X7_23 (aG_P rfl rfl) dX7_text_195 ?_
            refine lv_iconst (v := (1 : Int32)) hx hb dX7_text_198 (by decide) ?_
            refine a_iald (σ := aG r172.2) (o := 113) C hw rfl (aIn_v (by decide)) (show (1 : Int32).toNatClampNeg = 1 by decide) dX7_text_199 ?_
            refine lv_iadd hx hb dX7_text_200 ?_
            obtain ⟨r201, hr201, hM⟩ := h_b hM
            refine a_callS  (σ' := aG r201.2) (v := (some (.int r201.1))) (as := fun ad => [.int (8 : Int32), .int ((1 : Int32) + (gI r172.2 113 1))]) (rest := [.int (3 : Int32), .ref (ad 113)]) C hw (c_X7_less l hr201) k_X7_less wM_X7_94 ⟨⟨rfl, rfl⟩, ⟨Nat.le_of_ble_eq_true rfl, Nat.le_of_ble_eq_true rfl⟩⟩ rfl hl rfl (Nat.le_of_ble_eq_true rfl) dX7_text_201 ⟨Nat.zero_le _, Nat.zero_le _⟩ (fun H locs hw => ?_)
            refine a_iast (σ := aG r201.2) (o := 113) C hw rfl (aIn_v (by decide)) (show (3 : Int32).toNatClampNeg = 3 by decide) dX7_text_204 (fun H locs hw => ?_)
            have hw : aW D dA ad adV (aG (pI r201.2 113 3 r201.1)) A s H locs := hw
            refine lv_iconst (v := (0 : Int32)) hx hb dX7_text_205 (by decide) ?_
            refine lv_istore_n (lv' := [(2, .int (0 : Int32)), (0, .ref (ad 109)), (1, .int y1)]) hx hb dX7_text_206 rfl hl (by decide) rfl (fun ls hl => ?_)
            exact tl_X7_text_207 l C aF (y1) ((0 : Int32)) hM hw (lv_sub hl [1, 2, 0] rfl)
          · replace hM := h_t hc hM
            refine lv_aload_n hx hb dX7_text_178 rfl (lv_at hl 0 rfl) ?_
            refine a_geti (σ := aG r172.2) (o := 109) (T := TX7) (N := 20) C wU_X7 hw rfl (by decide) rfl 6 (by decide) rfl wF_X7_58 dX7_text_179 ?_
            refine lv_bipush (v := (10 : Int32)) hx hb dX7_text_182 (by decide) ?_
            refine lv_isub hx hb dX7_text_184 ?_
            cases h_e hM
            exact a_iret C hw dX7_text_185
        · replace hM := h_f hc hM
          refine lv_aload_n hx hb dX7_text_145 rfl (lv_at hl 0 rfl) ?_
          refine a_getp (q := 113) (σ := aG r139.2) (o := 109) (T := TX7) (N := 20) C wU_X7 hw rfl (by decide) rfl 10 (by decide) rfl wF_X7_23 (aG_P rfl rfl) dX7_text_146 ?_
          refine lv_iconst (v := (2 : Int32)) hx hb dX7_text_149 (by decide) ?_
          refine a_iald (σ := aG r139.2) (o := 113) C hw rfl (aIn_v (by decide)) (show (2 : Int32).toNatClampNeg = 2 by decide) dX7_text_150 ?_
          refine lv_if_ne (tgt := 163) hx hb dX7_text_151 (by decide) (fun hc => ?_) (fun hc => ?_)
          · replace hM := h_f hc hM
            refine lv_aload_n hx hb dX7_text_163 rfl (lv_at hl 0 rfl) ?_
            refine lv_aload_n hx hb dX7_text_164 rfl (lv_at hl 0 rfl) ?_
            refine a_geti (σ := aG r139.2) (o := 109) (T := TX7) (N := 20) C wU_X7 hw rfl (by decide) rfl 7 (by decide) rfl wF_X7_61 dX7_text_165 ?_
            refine a_puti (ty := .int) (σ := aG r139.2) (o := 109) (T := TX7) (N := 20) (ty0 := tyX7) C wU_X7 tyX7_ok nmX7 hw rfl (by decide) rfl 5 (by decide) rfl wF_X7_13 rfl (by decide +kernel) rfl rfl dX7_text_168 (fun H locs hw => ?_)
            have hw : aW D dA ad adV (aG (pI r139.2 109 5 (gI r139.2 109 7))) A s H locs := hw
            refine lv_aload_n hx hb dX7_text_171 rfl (lv_at hl 0 rfl) ?_
            obtain ⟨r172, hr172, hM⟩ := h_b hM
            refine a_callV (σ' := aG r172.2) (v := (some (.int r172.1))) (As := fun ad => []) (rest := []) (o := 109) C hw (c_X7_fine l hr172) k_X7_fine wM_X7_64 ⟨⟨rfl, rfl⟩, ⟨Nat.le_of_ble_eq_true rfl, Nat.le_of_ble_eq_true rfl⟩⟩ rfl (by decide) rfl rfl rfl hl rfl (Nat.le_of_ble_eq_true rfl) dX7_text_172 ⟨Nat.zero_le _, Nat.zero_le _⟩ (fun H locs hw => ?_)
            refine lv_if_ne (tgt := 186) hx hb dX7_text_175 (by decide) (fun hc => ?_) (fun hc => ?_)
            · replace hM := h_f hc hM
              refine lv_aload_n hx hb dX7_text_186 rfl (lv_at hl 0 rfl) ?_
              refine a_getp (q := 113) (σ := aG r172.2) (o := 109) (T := TX7) (N := 20) C wU_X7 hw rfl (by decide) rfl 10 (by decide) rfl wF_X7_23 (aG_P rfl rfl) dX7_text_187 ?_
              refine lv_iconst (v := (3 : Int32)) hx hb dX7_text_190 (by decide) ?_
              refine lv_bipush (v := (8 : Int32)) hx hb dX7_text_191 (by decide) ?_
              refine lv_iconst (v := (1 : Int32)) hx hb dX7_text_193 (by decide) ?_
              refine lv_aload_n hx hb dX7_text_194 rfl (lv_at hl 0 rfl) ?_
              refine a_getp (q := 113) (σ := aG r172.2) (o := 109) (T := TX7) (N := 20) C wU_X7 hw rfl (by decide) rfl 10 (by decide) rfl wF_X7_23 (aG_P rfl rfl) dX7_text_195 ?_
              refine lv_iconst (v := (1 : Int32)) hx hb dX7_text_198 (by decide) ?_
              refine a_iald (σ := aG r172.2) (o := 113) C hw rfl (aIn_v (by decide)) (show (1 : Int32).toNatClampNeg = 1 by decide) dX7_text_199 ?_
              refine lv_iadd hx hb dX7_text_200 ?_
              obtain ⟨r201, hr201, hM⟩ := h_b hM
              refine a_callS  (σ' := aG r201.2) (v := (some (.int r201.1))) (as := fun ad => [.int (8 : Int32), .int ((1 : Int32) + (gI r172.2 113 1))]) (rest := [.int (3 : Int32), .ref (ad 113)]) C hw (c_X7_less l hr201) k_X7_less wM_X7_94 ⟨⟨rfl, rfl⟩, ⟨Nat.le_of_ble_eq_true rfl, Nat.le_of_ble_eq_true rfl⟩⟩ rfl hl rfl (Nat.le_of_ble_eq_true rfl) dX7_text_201 ⟨Nat.zero_le _, Nat.zero_le _⟩ (fun H locs hw => ?_)
              refine a_iast (σ := aG r201.2) (o := 113) C hw rfl (aIn_v (by decide)) (show (3 : Int32).toNatClampNeg = 3 by decide) dX7_text_204 (fun H locs hw => ?_)
              have hw : aW D dA ad adV (aG (pI r201.2 113 3 r201.1)) A s H locs := hw
              refine lv_iconst (v := (0 : Int32)) hx hb dX7_text_205 (by decide) ?_
              refine lv_istore_n (lv' := [(2, .int (0 : Int32)), (0, .ref (ad 109)), (1, .int y1)]) hx hb dX7_text_206 rfl hl (by decide) rfl (fun ls hl => ?_)
              exact tl_X7_text_207 l C aF (y1) ((0 : Int32)) hM hw (lv_sub hl [1, 2, 0] rfl)
            · replace hM := h_t hc hM
              refine lv_aload_n hx hb dX7_text_178 rfl (lv_at hl 0 rfl) ?_
              refine a_geti (σ := aG r172.2) (o := 109) (T := TX7) (N := 20) C wU_X7 hw rfl (by decide) rfl 6 (by decide) rfl wF_X7_58 dX7_text_179 ?_
              refine lv_bipush (v := (10 : Int32)) hx hb dX7_text_182 (by decide) ?_
              refine lv_isub hx hb dX7_text_184 ?_
              cases h_e hM
              exact a_iret C hw dX7_text_185
          · replace hM := h_t hc hM
            refine lv_aload_n hx hb dX7_text_154 rfl (lv_at hl 0 rfl) ?_
            refine lv_iconst (v := (5 : Int32)) hx hb dX7_text_155 (by decide) ?_
            refine lv_aload_n hx hb dX7_text_156 rfl (lv_at hl 0 rfl) ?_
            refine a_geti (σ := aG r139.2) (o := 109) (T := TX7) (N := 20) C wU_X7 hw rfl (by decide) rfl 3 (by decide) rfl wF_X7_48 dX7_text_157 ?_
            obtain ⟨r160, hr160, hM⟩ := h_b hM
            refine a_callV (σ' := aG r160) (v := none) (As := fun ad => [.int (5 : Int32), .int (gI r139.2 109 3)]) (rest := []) (o := 109) C hw (c_X7_wrong l hr160) k_X7_wrong wM_X7_85 ⟨⟨rfl, rfl⟩, ⟨Nat.le_of_ble_eq_true rfl, Nat.le_of_ble_eq_true rfl⟩⟩ rfl (by decide) rfl rfl rfl hl rfl (Nat.le_of_ble_eq_true rfl) dX7_text_160 ⟨Nat.zero_le _, Nat.zero_le _⟩ (fun H locs hw => ?_)
            refine lv_aload_n hx hb dX7_text_163 rfl (lv_at hl 0 rfl) ?_
            refine lv_aload_n hx hb dX7_text_164 rfl (lv_at hl 0 rfl) ?_
            refine a_geti (σ := aG r160) (o := 109) (T := TX7) (N := 20) C wU_X7 hw rfl (by decide) rfl 7 (by decide) rfl wF_X7_61 dX7_text_165 ?_
            refine a_puti (ty := .int) (σ := aG r160) (o := 109) (T := TX7) (N := 20) (ty0 := tyX7) C wU_X7 tyX7_ok nmX7 hw rfl (by decide) rfl 5 (by decide) rfl wF_X7_13 rfl (by decide +kernel) rfl rfl dX7_text_168 (fun H locs hw => ?_)
            have hw : aW D dA ad adV (aG (pI r160 109 5 (gI r160 109 7))) A s H locs := hw
            refine lv_aload_n hx hb dX7_text_171 rfl (lv_at hl 0 rfl) ?_
            obtain ⟨r172, hr172, hM⟩ := h_b hM
            refine a_callV (σ' := aG r172.2) (v := (some (.int r172.1))) (As := fun ad => []) (rest := []) (o := 109) C hw (c_X7_fine l hr172) k_X7_fine wM_X7_64 ⟨⟨rfl, rfl⟩, ⟨Nat.le_of_ble_eq_true rfl, Nat.le_of_ble_eq_true rfl⟩⟩ rfl (by decide) rfl rfl rfl hl rfl (Nat.le_of_ble_eq_true rfl) dX7_text_172 ⟨Nat.zero_le _, Nat.zero_le _⟩ (fun H locs hw => ?_)
            refine lv_if_ne (tgt := 186) hx hb dX7_text_175 (by decide) (fun hc => ?_) (fun hc => ?_)
            · replace hM := h_f hc hM
              refine lv_aload_n hx hb dX7_text_186 rfl (lv_at hl 0 rfl) ?_
              refine a_getp (q := 113) (σ := aG r172.2) (o := 109) (T := TX7) (N := 20) C wU_X7 hw rfl (by decide) rfl 10 (by decide) rfl wF_X7_23 (aG_P rfl rfl) dX7_text_187 ?_
              refine lv_iconst (v := (3 : Int32)) hx hb dX7_text_190 (by decide) ?_
              refine lv_bipush (v := (8 : Int32)) hx hb dX7_text_191 (by decide) ?_
              refine lv_iconst (v := (1 : Int32)) hx hb dX7_text_193 (by decide) ?_
              refine lv_aload_n hx hb dX7_text_194 rfl (lv_at hl 0 rfl) ?_
              refine a_getp (q := 113) (σ := aG r172.2) (o := 109) (T := TX7) (N := 20) C wU_X7 hw rfl (by decide) rfl 10 (by decide) rfl wF_X7_23 (aG_P rfl rfl) dX7_text_195 ?_
              refine lv_iconst (v := (1 : Int32)) hx hb dX7_text_198 (by decide) ?_
              refine a_iald (σ := aG r172.2) (o := 113) C hw rfl (aIn_v (by decide)) (show (1 : Int32).toNatClampNeg = 1 by decide) dX7_text_199 ?_
              refine lv_iadd hx hb dX7_text_200 ?_
              obtain ⟨r201, hr201, hM⟩ := h_b hM
              refine a_callS  (σ' := aG r201.2) (v := (some (.int r201.1))) (as := fun ad => [.int (8 : Int32), .int ((1 : Int32) + (gI r172.2 113 1))]) (rest := [.int (3 : Int32), .ref (ad 113)]) C hw (c_X7_less l hr201) k_X7_less wM_X7_94 ⟨⟨rfl, rfl⟩, ⟨Nat.le_of_ble_eq_true rfl, Nat.le_of_ble_eq_true rfl⟩⟩ rfl hl rfl (Nat.le_of_ble_eq_true rfl) dX7_text_201 ⟨Nat.zero_le _, Nat.zero_le _⟩ (fun H locs hw => ?_)
              refine a_iast (σ := aG r201.2) (o := 113) C hw rfl (aIn_v (by decide)) (show (3 : Int32).toNatClampNeg = 3 by decide) dX7_text_204 (fun H locs hw => ?_)
              have hw : aW D dA ad adV (aG (pI r201.2 113 3 r201.1)) A s H locs := hw
              refine lv_iconst (v := (0 : Int32)) hx hb dX7_text_205 (by decide) ?_
              refine lv_istore_n (lv' := [(2, .int (0 : Int32)), (0, .ref (ad 109)), (1, .int y1)]) hx hb dX7_text_206 rfl hl (by decide) rfl (fun ls hl => ?_)
              exact tl_X7_text_207 l C aF (y1) ((0 : Int32)) hM hw (lv_sub hl [1, 2, 0] rfl)
            · replace hM := h_t hc hM
              refine lv_aload_n hx hb dX7_text_178 rfl (lv_at hl 0 rfl) ?_
              refine a_geti (σ := aG r172.2) (o := 109) (T := TX7) (N := 20) C wU_X7 hw rfl (by decide) rfl 6 (by decide) rfl wF_X7_58 dX7_text_179 ?_
              refine lv_bipush (v := (10 : Int32)) hx hb dX7_text_182 (by decide) ?_
              refine lv_isub hx hb dX7_text_184 ?_
              cases h_e hM
              exact a_iret C hw dX7_text_185
      · replace hM := h_f hc hM
        refine lv_aload_n hx hb dX7_text_131 rfl (lv_at hl 0 rfl) ?_
        obtain ⟨r132, hr132, hM⟩ := h_b hM
        refine a_callV (σ' := aG r132) (v := none) (As := fun ad => []) (rest := []) (o := 109) C hw (c_X7_readsLine l hr132) k_X7_readsLine wM_X7_170 ⟨⟨rfl, rfl⟩, ⟨Nat.le_of_ble_eq_true rfl, Nat.le_of_ble_eq_true rfl⟩⟩ rfl (by decide) rfl rfl rfl hl rfl (Nat.le_of_ble_eq_true rfl) dX7_text_132 ⟨Nat.zero_le _, Nat.zero_le _⟩ (fun H locs hw => ?_)
        refine lv_goto (tgt := 116) hx hb dX7_text_135 (by decide) ?_
        exact ih (y1) hM hw (lv_sub hl [0, 1] rfl)
set_option maxHeartbeats 400000 in
set_option maxRecDepth 100000 in
theorem c_X7_text (l : Launch) {x1 : Int32} {ι : iS} {res : Int32 × iS} (hM : m_X7_text x1 ι = some res) : aM l yX7_text cX7_text 3 (some .int) rm_X7_text (fun ad => [.ref (ad 109), .int x1]) (aG ι) (some (.int res.1)) (aG res.2) := by
  refine aM.of (by decide) (fun _ => Nat.le_of_ble_eq_true rfl) ?_
  intro p e s m args below meth c D dA ad adV A ls C hw hl
  have C : aX p m c cX7_text 3 s args aTs RX7 meth (some .int) := C
  have hx := C.1.1
  have hb := C.1.2.1
  have hml := C.1.2.2.1
  have hown := C.1.2.2.2.1
  have hts := C.1.2.2.2.2
  have hl : lv_has ls 3 [(0, .ref (ad 109)), (1, .int x1)] := hl
  unfold m_X7_text at hM
  refine lv_aload_n hx hb dX7_text_0 rfl (lv_at hl 0 rfl) ?_
  refine lv_iconst (v := (0 : Int32)) hx hb dX7_text_1 (by decide) ?_
  refine a_puti (ty := .int) (σ := aG ι) (o := 109) (T := TX7) (N := 20) (ty0 := tyX7) C wU_X7 tyX7_ok nmX7 hw rfl (by decide) rfl 0 (by decide) rfl wF_X7_42 rfl (by decide +kernel) rfl rfl dX7_text_2 (fun H locs hw => ?_)
  have hw : aW D dA ad adV (aG (pI ι 109 0 (0 : Int32))) A s H locs := hw
  refine lv_aload_n hx hb dX7_text_5 rfl (lv_at hl 0 rfl) ?_
  refine lv_iload_n hx hb dX7_text_6 rfl (lv_at hl 1 rfl) ?_
  refine lv_iconst (v := (0 : Int32)) hx hb dX7_text_7 (by decide) ?_
  refine lv_aload_n hx hb dX7_text_8 rfl (lv_at hl 0 rfl) ?_
  refine a_geti (σ := aG (pI ι 109 0 (0 : Int32))) (o := 109) (T := TX7) (N := 20) C wU_X7 hw rfl (by decide) rfl 2 (by decide) rfl wF_X7_45 dX7_text_9 ?_
  obtain ⟨r12, hr12, hM⟩ := h_b hM
  refine a_callS  (σ' := aG r12.2) (v := (some (.int r12.1))) (as := fun ad => [.int x1, .int (0 : Int32), .int (gI (pI ι 109 0 (0 : Int32)) 109 2)]) (rest := [.ref (ad 109)]) C hw (c_X7_in l hr12) k_X7_in wM_X7_81 ⟨⟨rfl, rfl⟩, ⟨Nat.le_of_ble_eq_true rfl, Nat.le_of_ble_eq_true rfl⟩⟩ rfl hl rfl (Nat.le_of_ble_eq_true rfl) dX7_text_12 ⟨Nat.zero_le _, Nat.zero_le _⟩ (fun H locs hw => ?_)
  refine lv_if_ne (tgt := 22) hx hb dX7_text_15 (by decide) (fun hc => ?_) (fun hc => ?_)
  · replace hM := h_f hc hM
    refine lv_iconst (v := (0 : Int32)) hx hb dX7_text_22 (by decide) ?_
    refine lv_iconst (v := (1 : Int32)) hx hb dX7_text_23 (by decide) ?_
    refine lv_iconst (v := (1 : Int32)) hx hb dX7_text_24 (by decide) ?_
    obtain ⟨r25, hr25, hM⟩ := h_b hM
    refine a_callV (σ' := aG r25.2) (v := (some (.int r25.1))) (As := fun ad => [.int (0 : Int32), .int (1 : Int32), .int (1 : Int32)]) (rest := []) (o := 109) C hw (c_X7_bad l hr25) k_X7_bad wM_X7_164 ⟨⟨rfl, rfl⟩, ⟨Nat.le_of_ble_eq_true rfl, Nat.le_of_ble_eq_true rfl⟩⟩ rfl (by decide) rfl rfl rfl hl rfl (Nat.le_of_ble_eq_true rfl) dX7_text_25 ⟨Nat.zero_le _, Nat.zero_le _⟩ (fun H locs hw => ?_)
    refine lv_if_eq (tgt := 33) hx hb dX7_text_28 (by decide) (fun hc => ?_) (fun hc => ?_)
    · replace hM := h_t hc hM
      refine lv_aload_n hx hb dX7_text_33 rfl (lv_at hl 0 rfl) ?_
      refine lv_iconst (v := (0 : Int32)) hx hb dX7_text_34 (by decide) ?_
      refine a_puti (ty := .int) (σ := aG r25.2) (o := 109) (T := TX7) (N := 20) (ty0 := tyX7) C wU_X7 tyX7_ok nmX7 hw rfl (by decide) rfl 2 (by decide) rfl wF_X7_45 rfl (by decide +kernel) rfl rfl dX7_text_35 (fun H locs hw => ?_)
      have hw : aW D dA ad adV (aG (pI r25.2 109 2 (0 : Int32))) A s H locs := hw
      refine lv_aload_n hx hb dX7_text_38 rfl (lv_at hl 0 rfl) ?_
      refine lv_iload_n hx hb dX7_text_39 rfl (lv_at hl 1 rfl) ?_
      refine a_puti (ty := .int) (σ := aG (pI r25.2 109 2 (0 : Int32))) (o := 109) (T := TX7) (N := 20) (ty0 := tyX7) C wU_X7 tyX7_ok nmX7 hw rfl (by decide) rfl 3 (by decide) rfl wF_X7_48 rfl (by decide +kernel) rfl rfl dX7_text_40 (fun H locs hw => ?_)
      have hw : aW D dA ad adV (aG (pI (pI r25.2 109 2 (0 : Int32)) 109 3 x1)) A s H locs := hw
      refine lv_aload_n hx hb dX7_text_43 rfl (lv_at hl 0 rfl) ?_
      refine lv_iconst (v := (0 : Int32)) hx hb dX7_text_44 (by decide) ?_
      refine a_puti (ty := .int) (σ := aG (pI (pI r25.2 109 2 (0 : Int32)) 109 3 x1)) (o := 109) (T := TX7) (N := 20) (ty0 := tyX7) C wU_X7 tyX7_ok nmX7 hw rfl (by decide) rfl 4 (by decide) rfl wF_X7_51 rfl (by decide +kernel) rfl rfl dX7_text_45 (fun H locs hw => ?_)
      have hw : aW D dA ad adV (aG (pI (pI (pI r25.2 109 2 (0 : Int32)) 109 3 x1) 109 4 (0 : Int32))) A s H locs := hw
      refine lv_aload_n hx hb dX7_text_48 rfl (lv_at hl 0 rfl) ?_
      refine lv_iconst (v := (0 : Int32)) hx hb dX7_text_49 (by decide) ?_
      refine a_puti (ty := .int) (σ := aG (pI (pI (pI r25.2 109 2 (0 : Int32)) 109 3 x1) 109 4 (0 : Int32))) (o := 109) (T := TX7) (N := 20) (ty0 := tyX7) C wU_X7 tyX7_ok nmX7 hw rfl (by decide) rfl 6 (by decide) rfl wF_X7_58 rfl (by decide +kernel) rfl rfl dX7_text_50 (fun H locs hw => ?_)
      have hw : aW D dA ad adV (aG (pI (pI (pI (pI r25.2 109 2 (0 : Int32)) 109 3 x1) 109 4 (0 : Int32)) 109 6 (0 : Int32))) A s H locs := hw
      refine lv_aload_n hx hb dX7_text_53 rfl (lv_at hl 0 rfl) ?_
      refine lv_iconst (v := (-1 : Int32)) hx hb dX7_text_54 (by decide) ?_
      refine a_puti (ty := .int) (σ := aG (pI (pI (pI (pI r25.2 109 2 (0 : Int32)) 109 3 x1) 109 4 (0 : Int32)) 109 6 (0 : Int32))) (o := 109) (T := TX7) (N := 20) (ty0 := tyX7) C wU_X7 tyX7_ok nmX7 hw rfl (by decide) rfl 7 (by decide) rfl wF_X7_61 rfl (by decide +kernel) rfl rfl dX7_text_55 (fun H locs hw => ?_)
      have hw : aW D dA ad adV (aG (pI (pI (pI (pI (pI r25.2 109 2 (0 : Int32)) 109 3 x1) 109 4 (0 : Int32)) 109 6 (0 : Int32)) 109 7 (-1 : Int32))) A s H locs := hw
      refine lv_aload_n hx hb dX7_text_58 rfl (lv_at hl 0 rfl) ?_
      refine lv_iconst (v := (0 : Int32)) hx hb dX7_text_59 (by decide) ?_
      refine a_puti (ty := .int) (σ := aG (pI (pI (pI (pI (pI r25.2 109 2 (0 : Int32)) 109 3 x1) 109 4 (0 : Int32)) 109 6 (0 : Int32)) 109 7 (-1 : Int32))) (o := 109) (T := TX7) (N := 20) (ty0 := tyX7) C wU_X7 tyX7_ok nmX7 hw rfl (by decide) rfl 13 (by decide) rfl wF_X7_101 rfl (by decide +kernel) rfl rfl dX7_text_60 (fun H locs hw => ?_)
      have hw : aW D dA ad adV (aG (pI (pI (pI (pI (pI (pI r25.2 109 2 (0 : Int32)) 109 3 x1) 109 4 (0 : Int32)) 109 6 (0 : Int32)) 109 7 (-1 : Int32)) 109 13 (0 : Int32))) A s H locs := hw
      refine lv_aload_n hx hb dX7_text_63 rfl (lv_at hl 0 rfl) ?_
      refine lv_iconst (v := (0 : Int32)) hx hb dX7_text_64 (by decide) ?_
      refine a_puti (ty := .int) (σ := aG (pI (pI (pI (pI (pI (pI r25.2 109 2 (0 : Int32)) 109 3 x1) 109 4 (0 : Int32)) 109 6 (0 : Int32)) 109 7 (-1 : Int32)) 109 13 (0 : Int32))) (o := 109) (T := TX7) (N := 20) (ty0 := tyX7) C wU_X7 tyX7_ok nmX7 hw rfl (by decide) rfl 14 (by decide) rfl wF_X7_104 rfl (by decide +kernel) rfl rfl dX7_text_65 (fun H locs hw => ?_)
      have hw : aW D dA ad adV (aG (pI (pI (pI (pI (pI (pI (pI r25.2 109 2 (0 : Int32)) 109 3 x1) 109 4 (0 : Int32)) 109 6 (0 : Int32)) 109 7 (-1 : Int32)) 109 13 (0 : Int32)) 109 14 (0 : Int32))) A s H locs := hw
      refine lv_aload_n hx hb dX7_text_68 rfl (lv_at hl 0 rfl) ?_
      refine lv_iconst (v := (0 : Int32)) hx hb dX7_text_69 (by decide) ?_
      refine a_puti (ty := .int) (σ := aG (pI (pI (pI (pI (pI (pI (pI r25.2 109 2 (0 : Int32)) 109 3 x1) 109 4 (0 : Int32)) 109 6 (0 : Int32)) 109 7 (-1 : Int32)) 109 13 (0 : Int32)) 109 14 (0 : Int32))) (o := 109) (T := TX7) (N := 20) (ty0 := tyX7) C wU_X7 tyX7_ok nmX7 hw rfl (by decide) rfl 15 (by decide) rfl wF_X7_139 rfl (by decide +kernel) rfl rfl dX7_text_70 (fun H locs hw => ?_)
      have hw : aW D dA ad adV (aG (pI (pI (pI (pI (pI (pI (pI (pI r25.2 109 2 (0 : Int32)) 109 3 x1) 109 4 (0 : Int32)) 109 6 (0 : Int32)) 109 7 (-1 : Int32)) 109 13 (0 : Int32)) 109 14 (0 : Int32)) 109 15 (0 : Int32))) A s H locs := hw
      refine lv_aload_n hx hb dX7_text_73 rfl (lv_at hl 0 rfl) ?_
      refine a_getp (q := 113) (σ := aG (pI (pI (pI (pI (pI (pI (pI (pI r25.2 109 2 (0 : Int32)) 109 3 x1) 109 4 (0 : Int32)) 109 6 (0 : Int32)) 109 7 (-1 : Int32)) 109 13 (0 : Int32)) 109 14 (0 : Int32)) 109 15 (0 : Int32))) (o := 109) (T := TX7) (N := 20) C wU_X7 hw rfl (by decide) rfl 10 (by decide) rfl wF_X7_23 (aG_P rfl rfl) dX7_text_74 ?_
      obtain ⟨r77, hr77, hM⟩ := h_b hM
      refine a_callS  (σ' := aG r77) (v := none) (as := fun ad => [.ref (ad 113)]) (rest := []) C hw (c_X7_begins l (rfl) hr77) k_X7_begins wM_X7_38 ⟨⟨rfl, rfl⟩, ⟨Nat.le_of_ble_eq_true rfl, Nat.le_of_ble_eq_true rfl⟩⟩ rfl hl rfl (Nat.le_of_ble_eq_true rfl) dX7_text_77 ⟨Nat.zero_le _, Nat.zero_le _⟩ (fun H locs hw => ?_)
      refine lv_aload_n hx hb dX7_text_80 rfl (lv_at hl 0 rfl) ?_
      refine a_ldcS (tx := "traits") (q := 1000000) C hw (by decide) dX7_text_81 ?_
      obtain ⟨r83, hr83, hM⟩ := h_b hM
      refine a_callV (σ' := aG r83.2) (v := (some (.int r83.1))) (As := fun ad => [.ref (ad 1000000)]) (rest := []) (o := 109) C hw (c_X7_takes l (by decide) hr83) k_X7_takes wM_X7_125 ⟨⟨rfl, rfl⟩, ⟨Nat.le_of_ble_eq_true rfl, Nat.le_of_ble_eq_true rfl⟩⟩ rfl (by decide) rfl rfl rfl hl rfl (Nat.le_of_ble_eq_true rfl) dX7_text_83 ⟨Nat.zero_le _, Nat.zero_le _⟩ (fun H locs hw => ?_)
      refine lv_if_ne (tgt := 98) hx hb dX7_text_86 (by decide) (fun hc => ?_) (fun hc => ?_)
      · replace hM := h_f hc hM
        refine lv_aload_n hx hb dX7_text_98 rfl (lv_at hl 0 rfl) ?_
        refine a_getp (q := 113) (σ := aG r83.2) (o := 109) (T := TX7) (N := 20) C wU_X7 hw rfl (by decide) rfl 10 (by decide) rfl wF_X7_23 (aG_P rfl rfl) dX7_text_99 ?_
        refine lv_iconst (v := (0 : Int32)) hx hb dX7_text_102 (by decide) ?_
        refine lv_aload_n hx hb dX7_text_103 rfl (lv_at hl 0 rfl) ?_
        refine lv_iconst (v := (1 : Int32)) hx hb dX7_text_104 (by decide) ?_
        refine lv_iconst (v := (5 : Int32)) hx hb dX7_text_105 (by decide) ?_
        obtain ⟨r106, hr106, hM⟩ := h_b hM
        refine a_callV (σ' := aG r106.2) (v := (some (.int r106.1))) (As := fun ad => [.int (1 : Int32), .int (5 : Int32)]) (rest := [.int (0 : Int32), .ref (ad 113)]) (o := 109) C hw (c_X7_number l hr106) k_X7_number wM_X7_98 ⟨⟨rfl, rfl⟩, ⟨Nat.le_of_ble_eq_true rfl, Nat.le_of_ble_eq_true rfl⟩⟩ rfl (by decide) rfl rfl rfl hl rfl (Nat.le_of_ble_eq_true rfl) dX7_text_106 ⟨Nat.zero_le _, Nat.zero_le _⟩ (fun H locs hw => ?_)
        refine a_iast (σ := aG r106.2) (o := 113) C hw rfl (aIn_v (by decide)) (show (0 : Int32).toNatClampNeg = 0 by decide) dX7_text_109 (fun H locs hw => ?_)
        have hw : aW D dA ad adV (aG (pI r106.2 113 0 r106.1)) A s H locs := hw
        refine lv_aload_n hx hb dX7_text_110 rfl (lv_at hl 0 rfl) ?_
        refine lv_bipush (v := (59 : Int32)) hx hb dX7_text_111 (by decide) ?_
        obtain ⟨r113, hr113, hM⟩ := h_b hM
        refine a_callV (σ' := aG r113) (v := none) (As := fun ad => [.int (59 : Int32)]) (rest := []) (o := 109) C hw (c_X7_must l hr113) k_X7_must wM_X7_120 ⟨⟨rfl, rfl⟩, ⟨Nat.le_of_ble_eq_true rfl, Nat.le_of_ble_eq_true rfl⟩⟩ rfl (by decide) rfl rfl rfl hl rfl (Nat.le_of_ble_eq_true rfl) dX7_text_113 ⟨Nat.zero_le _, Nat.zero_le _⟩ (fun H locs hw => ?_)
        exact tl_X7_text_116 l C aF (x1) hM hw (lv_sub hl [0, 1] rfl)
      · replace hM := h_t hc hM
        refine lv_aload_n hx hb dX7_text_89 rfl (lv_at hl 0 rfl) ?_
        refine lv_iconst (v := (1 : Int32)) hx hb dX7_text_90 (by decide) ?_
        refine lv_aload_n hx hb dX7_text_91 rfl (lv_at hl 0 rfl) ?_
        refine a_geti (σ := aG r83.2) (o := 109) (T := TX7) (N := 20) C wU_X7 hw rfl (by decide) rfl 4 (by decide) rfl wF_X7_51 dX7_text_92 ?_
        obtain ⟨r95, hr95, hM⟩ := h_b hM
        refine a_callV (σ' := aG r95) (v := none) (As := fun ad => [.int (1 : Int32), .int (gI r83.2 109 4)]) (rest := []) (o := 109) C hw (c_X7_wrong l hr95) k_X7_wrong wM_X7_85 ⟨⟨rfl, rfl⟩, ⟨Nat.le_of_ble_eq_true rfl, Nat.le_of_ble_eq_true rfl⟩⟩ rfl (by decide) rfl rfl rfl hl rfl (Nat.le_of_ble_eq_true rfl) dX7_text_95 ⟨Nat.zero_le _, Nat.zero_le _⟩ (fun H locs hw => ?_)
        refine lv_aload_n hx hb dX7_text_98 rfl (lv_at hl 0 rfl) ?_
        refine a_getp (q := 113) (σ := aG r95) (o := 109) (T := TX7) (N := 20) C wU_X7 hw rfl (by decide) rfl 10 (by decide) rfl wF_X7_23 (aG_P rfl rfl) dX7_text_99 ?_
        refine lv_iconst (v := (0 : Int32)) hx hb dX7_text_102 (by decide) ?_
        refine lv_aload_n hx hb dX7_text_103 rfl (lv_at hl 0 rfl) ?_
        refine lv_iconst (v := (1 : Int32)) hx hb dX7_text_104 (by decide) ?_
        refine lv_iconst (v := (5 : Int32)) hx hb dX7_text_105 (by decide) ?_
        obtain ⟨r106, hr106, hM⟩ := h_b hM
        refine a_callV (σ' := aG r106.2) (v := (some (.int r106.1))) (As := fun ad => [.int (1 : Int32), .int (5 : Int32)]) (rest := [.int (0 : Int32), .ref (ad 113)]) (o := 109) C hw (c_X7_number l hr106) k_X7_number wM_X7_98 ⟨⟨rfl, rfl⟩, ⟨Nat.le_of_ble_eq_true rfl, Nat.le_of_ble_eq_true rfl⟩⟩ rfl (by decide) rfl rfl rfl hl rfl (Nat.le_of_ble_eq_true rfl) dX7_text_106 ⟨Nat.zero_le _, Nat.zero_le _⟩ (fun H locs hw => ?_)
        refine a_iast (σ := aG r106.2) (o := 113) C hw rfl (aIn_v (by decide)) (show (0 : Int32).toNatClampNeg = 0 by decide) dX7_text_109 (fun H locs hw => ?_)
        have hw : aW D dA ad adV (aG (pI r106.2 113 0 r106.1)) A s H locs := hw
        refine lv_aload_n hx hb dX7_text_110 rfl (lv_at hl 0 rfl) ?_
        refine lv_bipush (v := (59 : Int32)) hx hb dX7_text_111 (by decide) ?_
        obtain ⟨r113, hr113, hM⟩ := h_b hM
        refine a_callV (σ' := aG r113) (v := none) (As := fun ad => [.int (59 : Int32)]) (rest := []) (o := 109) C hw (c_X7_must l hr113) k_X7_must wM_X7_120 ⟨⟨rfl, rfl⟩, ⟨Nat.le_of_ble_eq_true rfl, Nat.le_of_ble_eq_true rfl⟩⟩ rfl (by decide) rfl rfl rfl hl rfl (Nat.le_of_ble_eq_true rfl) dX7_text_113 ⟨Nat.zero_le _, Nat.zero_le _⟩ (fun H locs hw => ?_)
        exact tl_X7_text_116 l C aF (x1) hM hw (lv_sub hl [0, 1] rfl)
    · replace hM := h_f hc hM
      refine lv_iconst (v := (0 : Int32)) hx hb dX7_text_31 (by decide) ?_
      cases h_e hM
      exact a_iret C hw dX7_text_32
  · replace hM := h_t hc hM
    refine lv_iconst (v := (1 : Int32)) hx hb dX7_text_18 (by decide) ?_
    refine lv_goto (tgt := 23) hx hb dX7_text_19 (by decide) ?_
    refine lv_iconst (v := (1 : Int32)) hx hb dX7_text_23 (by decide) ?_
    refine lv_iconst (v := (1 : Int32)) hx hb dX7_text_24 (by decide) ?_
    obtain ⟨r25, hr25, hM⟩ := h_b hM
    refine a_callV (σ' := aG r25.2) (v := (some (.int r25.1))) (As := fun ad => [.int (1 : Int32), .int (1 : Int32), .int (1 : Int32)]) (rest := []) (o := 109) C hw (c_X7_bad l hr25) k_X7_bad wM_X7_164 ⟨⟨rfl, rfl⟩, ⟨Nat.le_of_ble_eq_true rfl, Nat.le_of_ble_eq_true rfl⟩⟩ rfl (by decide) rfl rfl rfl hl rfl (Nat.le_of_ble_eq_true rfl) dX7_text_25 ⟨Nat.zero_le _, Nat.zero_le _⟩ (fun H locs hw => ?_)
    refine lv_if_eq (tgt := 33) hx hb dX7_text_28 (by decide) (fun hc => ?_) (fun hc => ?_)
    · replace hM := h_t hc hM
      refine lv_aload_n hx hb dX7_text_33 rfl (lv_at hl 0 rfl) ?_
      refine lv_iconst (v := (0 : Int32)) hx hb dX7_text_34 (by decide) ?_
      refine a_puti (ty := .int) (σ := aG r25.2) (o := 109) (T := TX7) (N := 20) (ty0 := tyX7) C wU_X7 tyX7_ok nmX7 hw rfl (by decide) rfl 2 (by decide) rfl wF_X7_45 rfl (by decide +kernel) rfl rfl dX7_text_35 (fun H locs hw => ?_)
      have hw : aW D dA ad adV (aG (pI r25.2 109 2 (0 : Int32))) A s H locs := hw
      refine lv_aload_n hx hb dX7_text_38 rfl (lv_at hl 0 rfl) ?_
      refine lv_iload_n hx hb dX7_text_39 rfl (lv_at hl 1 rfl) ?_
      refine a_puti (ty := .int) (σ := aG (pI r25.2 109 2 (0 : Int32))) (o := 109) (T := TX7) (N := 20) (ty0 := tyX7) C wU_X7 tyX7_ok nmX7 hw rfl (by decide) rfl 3 (by decide) rfl wF_X7_48 rfl (by decide +kernel) rfl rfl dX7_text_40 (fun H locs hw => ?_)
      have hw : aW D dA ad adV (aG (pI (pI r25.2 109 2 (0 : Int32)) 109 3 x1)) A s H locs := hw
      refine lv_aload_n hx hb dX7_text_43 rfl (lv_at hl 0 rfl) ?_
      refine lv_iconst (v := (0 : Int32)) hx hb dX7_text_44 (by decide) ?_
      refine a_puti (ty := .int) (σ := aG (pI (pI r25.2 109 2 (0 : Int32)) 109 3 x1)) (o := 109) (T := TX7) (N := 20) (ty0 := tyX7) C wU_X7 tyX7_ok nmX7 hw rfl (by decide) rfl 4 (by decide) rfl wF_X7_51 rfl (by decide +kernel) rfl rfl dX7_text_45 (fun H locs hw => ?_)
      have hw : aW D dA ad adV (aG (pI (pI (pI r25.2 109 2 (0 : Int32)) 109 3 x1) 109 4 (0 : Int32))) A s H locs := hw
      refine lv_aload_n hx hb dX7_text_48 rfl (lv_at hl 0 rfl) ?_
      refine lv_iconst (v := (0 : Int32)) hx hb dX7_text_49 (by decide) ?_
      refine a_puti (ty := .int) (σ := aG (pI (pI (pI r25.2 109 2 (0 : Int32)) 109 3 x1) 109 4 (0 : Int32))) (o := 109) (T := TX7) (N := 20) (ty0 := tyX7) C wU_X7 tyX7_ok nmX7 hw rfl (by decide) rfl 6 (by decide) rfl wF_X7_58 rfl (by decide +kernel) rfl rfl dX7_text_50 (fun H locs hw => ?_)
      have hw : aW D dA ad adV (aG (pI (pI (pI (pI r25.2 109 2 (0 : Int32)) 109 3 x1) 109 4 (0 : Int32)) 109 6 (0 : Int32))) A s H locs := hw
      refine lv_aload_n hx hb dX7_text_53 rfl (lv_at hl 0 rfl) ?_
      refine lv_iconst (v := (-1 : Int32)) hx hb dX7_text_54 (by decide) ?_
      refine a_puti (ty := .int) (σ := aG (pI (pI (pI (pI r25.2 109 2 (0 : Int32)) 109 3 x1) 109 4 (0 : Int32)) 109 6 (0 : Int32))) (o := 109) (T := TX7) (N := 20) (ty0 := tyX7) C wU_X7 tyX7_ok nmX7 hw rfl (by decide) rfl 7 (by decide) rfl wF_X7_61 rfl (by decide +kernel) rfl rfl dX7_text_55 (fun H locs hw => ?_)
      have hw : aW D dA ad adV (aG (pI (pI (pI (pI (pI r25.2 109 2 (0 : Int32)) 109 3 x1) 109 4 (0 : Int32)) 109 6 (0 : Int32)) 109 7 (-1 : Int32))) A s H locs := hw
      refine lv_aload_n hx hb dX7_text_58 rfl (lv_at hl 0 rfl) ?_
      refine lv_iconst (v := (0 : Int32)) hx hb dX7_text_59 (by decide) ?_
      refine a_puti (ty := .int) (σ := aG (pI (pI (pI (pI (pI r25.2 109 2 (0 : Int32)) 109 3 x1) 109 4 (0 : Int32)) 109 6 (0 : Int32)) 109 7 (-1 : Int32))) (o := 109) (T := TX7) (N := 20) (ty0 := tyX7) C wU_X7 tyX7_ok nmX7 hw rfl (by decide) rfl 13 (by decide) rfl wF_X7_101 rfl (by decide +kernel) rfl rfl dX7_text_60 (fun H locs hw => ?_)
      have hw : aW D dA ad adV (aG (pI (pI (pI (pI (pI (pI r25.2 109 2 (0 : Int32)) 109 3 x1) 109 4 (0 : Int32)) 109 6 (0 : Int32)) 109 7 (-1 : Int32)) 109 13 (0 : Int32))) A s H locs := hw
      refine lv_aload_n hx hb dX7_text_63 rfl (lv_at hl 0 rfl) ?_
      refine lv_iconst (v := (0 : Int32)) hx hb dX7_text_64 (by decide) ?_
      refine a_puti (ty := .int) (σ := aG (pI (pI (pI (pI (pI (pI r25.2 109 2 (0 : Int32)) 109 3 x1) 109 4 (0 : Int32)) 109 6 (0 : Int32)) 109 7 (-1 : Int32)) 109 13 (0 : Int32))) (o := 109) (T := TX7) (N := 20) (ty0 := tyX7) C wU_X7 tyX7_ok nmX7 hw rfl (by decide) rfl 14 (by decide) rfl wF_X7_104 rfl (by decide +kernel) rfl rfl dX7_text_65 (fun H locs hw => ?_)
      have hw : aW D dA ad adV (aG (pI (pI (pI (pI (pI (pI (pI r25.2 109 2 (0 : Int32)) 109 3 x1) 109 4 (0 : Int32)) 109 6 (0 : Int32)) 109 7 (-1 : Int32)) 109 13 (0 : Int32)) 109 14 (0 : Int32))) A s H locs := hw
      refine lv_aload_n hx hb dX7_text_68 rfl (lv_at hl 0 rfl) ?_
      refine lv_iconst (v := (0 : Int32)) hx hb dX7_text_69 (by decide) ?_
      refine a_puti (ty := .int) (σ := aG (pI (pI (pI (pI (pI (pI (pI r25.2 109 2 (0 : Int32)) 109 3 x1) 109 4 (0 : Int32)) 109 6 (0 : Int32)) 109 7 (-1 : Int32)) 109 13 (0 : Int32)) 109 14 (0 : Int32))) (o := 109) (T := TX7) (N := 20) (ty0 := tyX7) C wU_X7 tyX7_ok nmX7 hw rfl (by decide) rfl 15 (by decide) rfl wF_X7_139 rfl (by decide +kernel) rfl rfl dX7_text_70 (fun H locs hw => ?_)
      have hw : aW D dA ad adV (aG (pI (pI (pI (pI (pI (pI (pI (pI r25.2 109 2 (0 : Int32)) 109 3 x1) 109 4 (0 : Int32)) 109 6 (0 : Int32)) 109 7 (-1 : Int32)) 109 13 (0 : Int32)) 109 14 (0 : Int32)) 109 15 (0 : Int32))) A s H locs := hw
      refine lv_aload_n hx hb dX7_text_73 rfl (lv_at hl 0 rfl) ?_
      refine a_getp (q := 113) (σ := aG (pI (pI (pI (pI (pI (pI (pI (pI r25.2 109 2 (0 : Int32)) 109 3 x1) 109 4 (0 : Int32)) 109 6 (0 : Int32)) 109 7 (-1 : Int32)) 109 13 (0 : Int32)) 109 14 (0 : Int32)) 109 15 (0 : Int32))) (o := 109) (T := TX7) (N := 20) C wU_X7 hw rfl (by decide) rfl 10 (by decide) rfl wF_X7_23 (aG_P rfl rfl) dX7_text_74 ?_
      obtain ⟨r77, hr77, hM⟩ := h_b hM
      refine a_callS  (σ' := aG r77) (v := none) (as := fun ad => [.ref (ad 113)]) (rest := []) C hw (c_X7_begins l (rfl) hr77) k_X7_begins wM_X7_38 ⟨⟨rfl, rfl⟩, ⟨Nat.le_of_ble_eq_true rfl, Nat.le_of_ble_eq_true rfl⟩⟩ rfl hl rfl (Nat.le_of_ble_eq_true rfl) dX7_text_77 ⟨Nat.zero_le _, Nat.zero_le _⟩ (fun H locs hw => ?_)
      refine lv_aload_n hx hb dX7_text_80 rfl (lv_at hl 0 rfl) ?_
      refine a_ldcS (tx := "traits") (q := 1000000) C hw (by decide) dX7_text_81 ?_
      obtain ⟨r83, hr83, hM⟩ := h_b hM
      refine a_callV (σ' := aG r83.2) (v := (some (.int r83.1))) (As := fun ad => [.ref (ad 1000000)]) (rest := []) (o := 109) C hw (c_X7_takes l (by decide) hr83) k_X7_takes wM_X7_125 ⟨⟨rfl, rfl⟩, ⟨Nat.le_of_ble_eq_true rfl, Nat.le_of_ble_eq_true rfl⟩⟩ rfl (by decide) rfl rfl rfl hl rfl (Nat.le_of_ble_eq_true rfl) dX7_text_83 ⟨Nat.zero_le _, Nat.zero_le _⟩ (fun H locs hw => ?_)
      refine lv_if_ne (tgt := 98) hx hb dX7_text_86 (by decide) (fun hc => ?_) (fun hc => ?_)
      · replace hM := h_f hc hM
        refine lv_aload_n hx hb dX7_text_98 rfl (lv_at hl 0 rfl) ?_
        refine a_getp (q := 113) (σ := aG r83.2) (o := 109) (T := TX7) (N := 20) C wU_X7 hw rfl (by decide) rfl 10 (by decide) rfl wF_X7_23 (aG_P rfl rfl) dX7_text_99 ?_
        refine lv_iconst (v := (0 : Int32)) hx hb dX7_text_102 (by decide) ?_
        refine lv_aload_n hx hb dX7_text_103 rfl (lv_at hl 0 rfl) ?_
        refine lv_iconst (v := (1 : Int32)) hx hb dX7_text_104 (by decide) ?_
        refine lv_iconst (v := (5 : Int32)) hx hb dX7_text_105 (by decide) ?_
        obtain ⟨r106, hr106, hM⟩ := h_b hM
        refine a_callV (σ' := aG r106.2) (v := (some (.int r106.1))) (As := fun ad => [.int (1 : Int32), .int (5 : Int32)]) (rest := [.int (0 : Int32), .ref (ad 113)]) (o := 109) C hw (c_X7_number l hr106) k_X7_number wM_X7_98 ⟨⟨rfl, rfl⟩, ⟨Nat.le_of_ble_eq_true rfl, Nat.le_of_ble_eq_true rfl⟩⟩ rfl (by decide) rfl rfl rfl hl rfl (Nat.le_of_ble_eq_true rfl) dX7_text_106 ⟨Nat.zero_le _, Nat.zero_le _⟩ (fun H locs hw => ?_)
        refine a_iast (σ := aG r106.2) (o := 113) C hw rfl (aIn_v (by decide)) (show (0 : Int32).toNatClampNeg = 0 by decide) dX7_text_109 (fun H locs hw => ?_)
        have hw : aW D dA ad adV (aG (pI r106.2 113 0 r106.1)) A s H locs := hw
        refine lv_aload_n hx hb dX7_text_110 rfl (lv_at hl 0 rfl) ?_
        refine lv_bipush (v := (59 : Int32)) hx hb dX7_text_111 (by decide) ?_
        obtain ⟨r113, hr113, hM⟩ := h_b hM
        refine a_callV (σ' := aG r113) (v := none) (As := fun ad => [.int (59 : Int32)]) (rest := []) (o := 109) C hw (c_X7_must l hr113) k_X7_must wM_X7_120 ⟨⟨rfl, rfl⟩, ⟨Nat.le_of_ble_eq_true rfl, Nat.le_of_ble_eq_true rfl⟩⟩ rfl (by decide) rfl rfl rfl hl rfl (Nat.le_of_ble_eq_true rfl) dX7_text_113 ⟨Nat.zero_le _, Nat.zero_le _⟩ (fun H locs hw => ?_)
        exact tl_X7_text_116 l C aF (x1) hM hw (lv_sub hl [0, 1] rfl)
      · replace hM := h_t hc hM
        refine lv_aload_n hx hb dX7_text_89 rfl (lv_at hl 0 rfl) ?_
        refine lv_iconst (v := (1 : Int32)) hx hb dX7_text_90 (by decide) ?_
        refine lv_aload_n hx hb dX7_text_91 rfl (lv_at hl 0 rfl) ?_
        refine a_geti (σ := aG r83.2) (o := 109) (T := TX7) (N := 20) C wU_X7 hw rfl (by decide) rfl 4 (by decide) rfl wF_X7_51 dX7_text_92 ?_
        obtain ⟨r95, hr95, hM⟩ := h_b hM
        refine a_callV (σ' := aG r95) (v := none) (As := fun ad => [.int (1 : Int32), .int (gI r83.2 109 4)]) (rest := []) (o := 109) C hw (c_X7_wrong l hr95) k_X7_wrong wM_X7_85 ⟨⟨rfl, rfl⟩, ⟨Nat.le_of_ble_eq_true rfl, Nat.le_of_ble_eq_true rfl⟩⟩ rfl (by decide) rfl rfl rfl hl rfl (Nat.le_of_ble_eq_true rfl) dX7_text_95 ⟨Nat.zero_le _, Nat.zero_le _⟩ (fun H locs hw => ?_)
        refine lv_aload_n hx hb dX7_text_98 rfl (lv_at hl 0 rfl) ?_
        refine a_getp (q := 113) (σ := aG r95) (o := 109) (T := TX7) (N := 20) C wU_X7 hw rfl (by decide) rfl 10 (by decide) rfl wF_X7_23 (aG_P rfl rfl) dX7_text_99 ?_
        refine lv_iconst (v := (0 : Int32)) hx hb dX7_text_102 (by decide) ?_
        refine lv_aload_n hx hb dX7_text_103 rfl (lv_at hl 0 rfl) ?_
        refine lv_iconst (v := (1 : Int32)) hx hb dX7_text_104 (by decide) ?_
        refine lv_iconst (v := (5 : Int32)) hx hb dX7_text_105 (by decide) ?_
        obtain ⟨r106, hr106, hM⟩ := h_b hM
        refine a_callV (σ' := aG r106.2) (v := (some (.int r106.1))) (As := fun ad => [.int (1 : Int32), .int (5 : Int32)]) (rest := [.int (0 : Int32), .ref (ad 113)]) (o := 109) C hw (c_X7_number l hr106) k_X7_number wM_X7_98 ⟨⟨rfl, rfl⟩, ⟨Nat.le_of_ble_eq_true rfl, Nat.le_of_ble_eq_true rfl⟩⟩ rfl (by decide) rfl rfl rfl hl rfl (Nat.le_of_ble_eq_true rfl) dX7_text_106 ⟨Nat.zero_le _, Nat.zero_le _⟩ (fun H locs hw => ?_)
        refine a_iast (σ := aG r106.2) (o := 113) C hw rfl (aIn_v (by decide)) (show (0 : Int32).toNatClampNeg = 0 by decide) dX7_text_109 (fun H locs hw => ?_)
        have hw : aW D dA ad adV (aG (pI r106.2 113 0 r106.1)) A s H locs := hw
        refine lv_aload_n hx hb dX7_text_110 rfl (lv_at hl 0 rfl) ?_
        refine lv_bipush (v := (59 : Int32)) hx hb dX7_text_111 (by decide) ?_
        obtain ⟨r113, hr113, hM⟩ := h_b hM
        refine a_callV (σ' := aG r113) (v := none) (As := fun ad => [.int (59 : Int32)]) (rest := []) (o := 109) C hw (c_X7_must l hr113) k_X7_must wM_X7_120 ⟨⟨rfl, rfl⟩, ⟨Nat.le_of_ble_eq_true rfl, Nat.le_of_ble_eq_true rfl⟩⟩ rfl (by decide) rfl rfl rfl hl rfl (Nat.le_of_ble_eq_true rfl) dX7_text_113 ⟨Nat.zero_le _, Nat.zero_le _⟩ (fun H locs hw => ?_)
        exact tl_X7_text_116 l C aF (x1) hM hw (lv_sub hl [0, 1] rfl)
    · replace hM := h_f hc hM
      refine lv_iconst (v := (0 : Int32)) hx hb dX7_text_31 (by decide) ?_
      cases h_e hM
      exact a_iret C hw dX7_text_32
def rm_X0_chooseFrom : Room := { frames := 61, cells := 0, slots := 0, locals := 1630 }
set_option maxHeartbeats 400000 in
set_option maxRecDepth 100000 in
theorem c_X0_chooseFrom (l : Launch) {x1 : Nat} {x2 : Int32} (hx1 : aLin x1 = true) {ι : iS} {res : iS} (hM : m_X0_chooseFrom x1 x2 ι = some res) : aM l yX0_chooseFrom cX0_chooseFrom 5 none rm_X0_chooseFrom (fun ad => [.ref (ad 35), .ref (ad x1), .int x2]) (aG ι) none (aG res) := by
  refine aM.of (by decide) (fun _ => Nat.le_of_ble_eq_true rfl) ?_
  intro p e s m args below meth c D dA ad adV A ls C hw hl
  have C : aX p m c cX0_chooseFrom 5 s args aTs RX0 meth none := C
  have hx := C.1.1
  have hb := C.1.2.1
  have hml := C.1.2.2.1
  have hown := C.1.2.2.2.1
  have hts := C.1.2.2.2.2
  have hl : lv_has ls 5 [(0, .ref (ad 35)), (1, .ref (ad x1)), (2, .int x2)] := hl
  unfold m_X0_chooseFrom at hM
  refine lv_aload_n hx hb dX0_chooseFrom_0 rfl (lv_at hl 0 rfl) ?_
  refine lv_iconst (v := (0 : Int32)) hx hb dX0_chooseFrom_1 (by decide) ?_
  refine a_puti (ty := .boolean) (σ := aG ι) (o := 35) (T := TX0) (N := 6) (ty0 := tyX0) C wU_X0 tyX0_ok nmX0 hw rfl (by decide) rfl 3 (by decide) rfl wF_X0_22 rfl (by decide +kernel) (by decide) (by decide) dX0_chooseFrom_2 (fun H locs hw => ?_)
  have hw : aW D dA ad adV (aG (pI ι 35 3 (0 : Int32))) A s H locs := hw
  refine lv_aload_n hx hb dX0_chooseFrom_5 rfl (lv_at hl 0 rfl) ?_
  refine lv_aload_n hx hb dX0_chooseFrom_6 rfl (lv_at hl 1 rfl) ?_
  refine a_geti (σ := aG (pI ι 35 3 (0 : Int32))) (o := x1) (T := TX2) (N := 11) C wU_X2 hw (aLin_k hx1).1 (by decide) rfl 1 (by decide) rfl wF_X0_33 dX0_chooseFrom_7 ?_
  refine a_puti (ty := .int) (σ := aG (pI ι 35 3 (0 : Int32))) (o := 35) (T := TX0) (N := 6) (ty0 := tyX0) C wU_X0 tyX0_ok nmX0 hw rfl (by decide) rfl 4 (by decide) rfl wF_X0_26 rfl (by decide +kernel) rfl rfl dX0_chooseFrom_10 (fun H locs hw => ?_)
  have hw : aW D dA ad adV (aG (pI (pI ι 35 3 (0 : Int32)) 35 4 (gI (pI ι 35 3 (0 : Int32)) x1 1))) A s H locs := hw
  refine lv_aload_n hx hb dX0_chooseFrom_13 rfl (lv_at hl 1 rfl) ?_
  refine a_getp (q := (x1 + 7)) (σ := aG (pI (pI ι 35 3 (0 : Int32)) 35 4 (gI (pI ι 35 3 (0 : Int32)) x1 1))) (o := x1) (T := TX2) (N := 11) C wU_X2 hw (aLin_k hx1).1 (by decide) rfl 9 (by decide) rfl wF_X0_36 (aLin_p hx1 (pI (pI ι 35 3 (0 : Int32)) 35 4 (gI (pI ι 35 3 (0 : Int32)) x1 1)) 6 (by decide)) dX0_chooseFrom_14 ?_
  refine lv_iconst (v := (0 : Int32)) hx hb dX0_chooseFrom_17 (by decide) ?_
  refine lv_aload_n hx hb dX0_chooseFrom_18 rfl (lv_at hl 0 rfl) ?_
  refine a_getp (q := 36) (σ := aG (pI (pI ι 35 3 (0 : Int32)) 35 4 (gI (pI ι 35 3 (0 : Int32)) x1 1))) (o := 35) (T := TX0) (N := 6) C wU_X0 hw rfl (by decide) rfl 5 (by decide) rfl wF_X0_29 (aG_P rfl rfl) dX0_chooseFrom_19 ?_
  refine lv_iconst (v := (0 : Int32)) hx hb dX0_chooseFrom_22 (by decide) ?_
  refine lv_bipush (v := (16 : Int32)) hx hb dX0_chooseFrom_23 (by decide) ?_
  refine a_copy (σ := aG (pI (pI ι 35 3 (0 : Int32)) 35 4 (gI (pI ι 35 3 (0 : Int32)) x1 1))) (o := (x1 + 7)) (o1 := 36) C hw wM_X0_37 wN_arraycopyName wS_arraycopyName wZ_J10 (aLin_k hx1).2.2.2.2.2.2.2.1 rfl (by decide) (by decide) (by decide) (by decide) (by decide) hl (Nat.le_of_ble_eq_true rfl) (by decide +kernel) dX0_chooseFrom_25 (fun H locs hw => ?_)
  obtain ⟨ι25, hι25, hM⟩ := h_b hM
  have hw : aW D dA ad adV (aG ι25) A s H locs := by rw [h_e hι25]; exact hw
  refine lv_aload_n hx hb dX0_chooseFrom_28 rfl (lv_at hl 0 rfl) ?_
  refine a_getp (q := 36) (σ := aG ι25) (o := 35) (T := TX0) (N := 6) C wU_X0 hw rfl (by decide) rfl 5 (by decide) rfl wF_X0_29 (aG_P rfl rfl) dX0_chooseFrom_29 ?_
  refine lv_iconst (v := (0 : Int32)) hx hb dX0_chooseFrom_32 (by decide) ?_
  refine a_iald (σ := aG ι25) (o := 36) C hw rfl (aIn_v (by decide)) (show (0 : Int32).toNatClampNeg = 0 by decide) dX0_chooseFrom_33 ?_
  refine lv_i2l hx hb dX0_chooseFrom_34 rfl ?_
  refine lv_lstore_n (lv' := [(3, .long ((gI ι25 36 0)).toInt64), (0, .ref (ad 35)), (1, .ref (ad x1)), (2, .int x2)]) hx hb dX0_chooseFrom_35 rfl hl (by decide) rfl (fun ls hl => ?_)
  refine lv_aload_n hx hb dX0_chooseFrom_36 rfl (lv_at hl 1 rfl) ?_
  refine lv_iconst (v := (1 : Int32)) hx hb dX0_chooseFrom_37 (by decide) ?_
  refine lv_iload_n hx hb dX0_chooseFrom_38 rfl (lv_at hl 3 rfl) ?_
  refine lv_iconst (v := (0 : Int32)) hx hb dX0_chooseFrom_39 (by decide) ?_
  refine lv_lload_n hx hb dX0_chooseFrom_40 rfl (lv_at hl 0 rfl) ?_
  refine lv_lload_n hx hb dX0_chooseFrom_41 rfl (lv_at hl 0 rfl) ?_
  refine lv_lload_n hx hb dX0_chooseFrom_42 rfl (lv_at hl 0 rfl) ?_
  refine lv_lmul hx hb dX0_chooseFrom_43 ?_
  obtain ⟨r44, hr44, hM⟩ := h_b hM
  refine a_callV (σ' := aG r44) (v := none) (As := fun ad => [.int (1 : Int32), .int x2, .int (0 : Int32), .long ((gI ι25 36 0)).toInt64, .long (((gI ι25 36 0)).toInt64 * ((gI ι25 36 0)).toInt64)]) (rest := []) (o := 35) C hw (c_X0_addFillers l 20 hr44) k_X0_addFillers wM_X0_43 ⟨⟨rfl, rfl⟩, ⟨Nat.le_of_ble_eq_true rfl, Nat.le_of_ble_eq_true rfl⟩⟩ rfl (by decide) rfl rfl rfl hl rfl (Nat.le_of_ble_eq_true rfl) dX0_chooseFrom_44 ⟨Nat.zero_le _, Nat.zero_le _⟩ (fun H locs hw => ?_)
  cases h_e hM
  exact a_vret C hw dX0_chooseFrom_47
def rm_X3_leafKindAt : Room := { frames := 5, cells := 0, slots := 0, locals := 108 }
set_option maxHeartbeats 400000 in
set_option maxRecDepth 100000 in
theorem c_X3_leafKindAt (l : Launch) {ι : iS} {res : Int32 × iS} (hM : m_X3_leafKindAt ι = some res) : aM l yX3_leafKindAt cX3_leafKindAt 1 (some .int) rm_X3_leafKindAt (fun ad => [.ref (ad 11)]) (aG ι) (some (.int res.1)) (aG res.2) := by
  refine aM.of (by decide) (fun _ => Nat.le_of_ble_eq_true rfl) ?_
  intro p e s m args below meth c D dA ad adV A ls C hw hl
  have C : aX p m c cX3_leafKindAt 1 s args aTs RX3 meth (some .int) := C
  have hx := C.1.1
  have hb := C.1.2.1
  have hml := C.1.2.2.1
  have hown := C.1.2.2.2.1
  have hts := C.1.2.2.2.2
  have hl : lv_has ls 1 [(0, .ref (ad 11))] := hl
  unfold m_X3_leafKindAt at hM
  refine lv_aload_n hx hb dX3_leafKindAt_0 rfl (lv_at hl 0 rfl) ?_
  refine a_getp (q := 24) (σ := aG ι) (o := 11) (T := TX3) (N := 7) C wU_X3 hw rfl (by decide) rfl 3 (by decide) rfl wF_X3_32 (aG_P rfl rfl) dX3_leafKindAt_1 ?_
  refine lv_aload_n hx hb dX3_leafKindAt_4 rfl (lv_at hl 0 rfl) ?_
  refine a_geti (σ := aG ι) (o := 11) (T := TX3) (N := 7) C wU_X3 hw rfl (by decide) rfl 5 (by decide) rfl wF_X3_39 dX3_leafKindAt_5 ?_
  obtain ⟨r8, hr8, hM⟩ := h_b hM
  refine a_callV (σ' := aG r8.2) (v := (some (.int r8.1))) (As := fun ad => [.int (gI ι 11 5)]) (rest := []) (o := 24) C hw (c_X4_isNumber l hr8) k_X4_isNumber wM_X3_159 ⟨⟨rfl, rfl⟩, ⟨Nat.le_of_ble_eq_true rfl, Nat.le_of_ble_eq_true rfl⟩⟩ rfl (by decide) rfl rfl rfl hl rfl (Nat.le_of_ble_eq_true rfl) dX3_leafKindAt_8 ⟨Nat.zero_le _, Nat.zero_le _⟩ (fun H locs hw => ?_)
  refine lv_if_eq (tgt := 16) hx hb dX3_leafKindAt_11 (by decide) (fun hc => ?_) (fun hc => ?_)
  · replace hM := h_t hc hM
    refine lv_aload_n hx hb dX3_leafKindAt_16 rfl (lv_at hl 0 rfl) ?_
    refine a_getp (q := 24) (σ := aG r8.2) (o := 11) (T := TX3) (N := 7) C wU_X3 hw rfl (by decide) rfl 3 (by decide) rfl wF_X3_32 (aG_P rfl rfl) dX3_leafKindAt_17 ?_
    refine lv_aload_n hx hb dX3_leafKindAt_20 rfl (lv_at hl 0 rfl) ?_
    refine a_geti (σ := aG r8.2) (o := 11) (T := TX3) (N := 7) C wU_X3 hw rfl (by decide) rfl 5 (by decide) rfl wF_X3_39 dX3_leafKindAt_21 ?_
    refine a_ldcS (tx := "value") (q := 1000009) C hw (by decide) dX3_leafKindAt_24 ?_
    obtain ⟨r26, hr26, hM⟩ := h_b hM
    refine a_callV (σ' := aG r26.2) (v := (some (.int r26.1))) (As := fun ad => [.int (gI r8.2 11 5), .ref (ad 1000009)]) (rest := []) (o := 24) C hw (c_X4_isWord l (by decide) hr26) k_X4_isWord wM_X3_84 ⟨⟨rfl, rfl⟩, ⟨Nat.le_of_ble_eq_true rfl, Nat.le_of_ble_eq_true rfl⟩⟩ rfl (by decide) rfl rfl rfl hl rfl (Nat.le_of_ble_eq_true rfl) dX3_leafKindAt_26 ⟨Nat.zero_le _, Nat.zero_le _⟩ (fun H locs hw => ?_)
    refine lv_if_eq (tgt := 34) hx hb dX3_leafKindAt_29 (by decide) (fun hc => ?_) (fun hc => ?_)
    · replace hM := h_t hc hM
      refine lv_aload_n hx hb dX3_leafKindAt_34 rfl (lv_at hl 0 rfl) ?_
      refine a_getp (q := 24) (σ := aG r26.2) (o := 11) (T := TX3) (N := 7) C wU_X3 hw rfl (by decide) rfl 3 (by decide) rfl wF_X3_32 (aG_P rfl rfl) dX3_leafKindAt_35 ?_
      refine lv_aload_n hx hb dX3_leafKindAt_38 rfl (lv_at hl 0 rfl) ?_
      refine a_geti (σ := aG r26.2) (o := 11) (T := TX3) (N := 7) C wU_X3 hw rfl (by decide) rfl 5 (by decide) rfl wF_X3_39 dX3_leafKindAt_39 ?_
      refine a_ldcS (tx := "off") (q := 1000010) C hw (by decide) dX3_leafKindAt_42 ?_
      obtain ⟨r44, hr44, hM⟩ := h_b hM
      refine a_callV (σ' := aG r44.2) (v := (some (.int r44.1))) (As := fun ad => [.int (gI r26.2 11 5), .ref (ad 1000010)]) (rest := []) (o := 24) C hw (c_X4_isWord l (by decide) hr44) k_X4_isWord wM_X3_84 ⟨⟨rfl, rfl⟩, ⟨Nat.le_of_ble_eq_true rfl, Nat.le_of_ble_eq_true rfl⟩⟩ rfl (by decide) rfl rfl rfl hl rfl (Nat.le_of_ble_eq_true rfl) dX3_leafKindAt_44 ⟨Nat.zero_le _, Nat.zero_le _⟩ (fun H locs hw => ?_)
      refine lv_if_eq (tgt := 52) hx hb dX3_leafKindAt_47 (by decide) (fun hc => ?_) (fun hc => ?_)
      · replace hM := h_t hc hM
        refine lv_aload_n hx hb dX3_leafKindAt_52 rfl (lv_at hl 0 rfl) ?_
        refine a_getp (q := 24) (σ := aG r44.2) (o := 11) (T := TX3) (N := 7) C wU_X3 hw rfl (by decide) rfl 3 (by decide) rfl wF_X3_32 (aG_P rfl rfl) dX3_leafKindAt_53 ?_
        refine lv_aload_n hx hb dX3_leafKindAt_56 rfl (lv_at hl 0 rfl) ?_
        refine a_geti (σ := aG r44.2) (o := 11) (T := TX3) (N := 7) C wU_X3 hw rfl (by decide) rfl 5 (by decide) rfl wF_X3_39 dX3_leafKindAt_57 ?_
        refine a_ldcS (tx := "weight") (q := 1000011) C hw (by decide) dX3_leafKindAt_60 ?_
        obtain ⟨r62, hr62, hM⟩ := h_b hM
        refine a_callV (σ' := aG r62.2) (v := (some (.int r62.1))) (As := fun ad => [.int (gI r44.2 11 5), .ref (ad 1000011)]) (rest := []) (o := 24) C hw (c_X4_isWord l (by decide) hr62) k_X4_isWord wM_X3_84 ⟨⟨rfl, rfl⟩, ⟨Nat.le_of_ble_eq_true rfl, Nat.le_of_ble_eq_true rfl⟩⟩ rfl (by decide) rfl rfl rfl hl rfl (Nat.le_of_ble_eq_true rfl) dX3_leafKindAt_62 ⟨Nat.zero_le _, Nat.zero_le _⟩ (fun H locs hw => ?_)
        refine lv_if_eq (tgt := 72) hx hb dX3_leafKindAt_65 (by decide) (fun hc => ?_) (fun hc => ?_)
        · replace hM := h_t hc hM
          refine lv_iconst (v := (-1 : Int32)) hx hb dX3_leafKindAt_72 (by decide) ?_
          cases h_e hM
          exact a_iret C hw dX3_leafKindAt_73
        · replace hM := h_f hc hM
          refine lv_iconst (v := (3 : Int32)) hx hb dX3_leafKindAt_68 (by decide) ?_
          refine lv_goto (tgt := 73) hx hb dX3_leafKindAt_69 (by decide) ?_
          cases h_e hM
          exact a_iret C hw dX3_leafKindAt_73
      · replace hM := h_f hc hM
        refine lv_iconst (v := (2 : Int32)) hx hb dX3_leafKindAt_50 (by decide) ?_
        cases h_e hM
        exact a_iret C hw dX3_leafKindAt_51
    · replace hM := h_f hc hM
      refine lv_iconst (v := (1 : Int32)) hx hb dX3_leafKindAt_32 (by decide) ?_
      cases h_e hM
      exact a_iret C hw dX3_leafKindAt_33
  · replace hM := h_f hc hM
    refine lv_iconst (v := (0 : Int32)) hx hb dX3_leafKindAt_14 (by decide) ?_
    cases h_e hM
    exact a_iret C hw dX3_leafKindAt_15
def rm_X3_readLeaf : Room := { frames := 6, cells := 0, slots := 0, locals := 128 }
set_option maxHeartbeats 400000 in
set_option maxRecDepth 100000 in
theorem c_X3_readLeaf (l : Launch) {ι : iS} {res : Int32 × iS} (hM : m_X3_readLeaf ι = some res) : aM l yX3_readLeaf cX3_readLeaf 3 (some .boolean) rm_X3_readLeaf (fun ad => [.ref (ad 11)]) (aG ι) (some (.int res.1)) (aG res.2) := by
  refine aM.of (by decide) (fun _ => Nat.le_of_ble_eq_true rfl) ?_
  intro p e s m args below meth c D dA ad adV A ls C hw hl
  have C : aX p m c cX3_readLeaf 3 s args aTs RX3 meth (some .boolean) := C
  have hx := C.1.1
  have hb := C.1.2.1
  have hml := C.1.2.2.1
  have hown := C.1.2.2.2.1
  have hts := C.1.2.2.2.2
  have hl : lv_has ls 3 [(0, .ref (ad 11))] := hl
  unfold m_X3_readLeaf at hM
  refine lv_aload_n hx hb dX3_readLeaf_0 rfl (lv_at hl 0 rfl) ?_
  obtain ⟨r1, hr1, hM⟩ := h_b hM
  refine a_callV (σ' := aG r1.2) (v := (some (.int r1.1))) (As := fun ad => []) (rest := []) (o := 11) C hw (c_X3_leafKindAt l hr1) k_X3_leafKindAt wM_X3_178 ⟨⟨rfl, rfl⟩, ⟨Nat.le_of_ble_eq_true rfl, Nat.le_of_ble_eq_true rfl⟩⟩ rfl (by decide) rfl rfl rfl hl rfl (Nat.le_of_ble_eq_true rfl) dX3_readLeaf_1 ⟨Nat.zero_le _, Nat.zero_le _⟩ (fun H locs hw => ?_)
  refine lv_istore_n (lv' := [(1, .int r1.1), (0, .ref (ad 11))]) hx hb dX3_readLeaf_4 rfl hl (by decide) rfl (fun ls hl => ?_)
  refine lv_iload_n hx hb dX3_readLeaf_5 rfl (lv_at hl 0 rfl) ?_
  refine lv_iconst (v := (-1 : Int32)) hx hb dX3_readLeaf_6 (by decide) ?_
  refine lv_icmp_ne (tgt := 16) hx hb dX3_readLeaf_7 (by decide) (fun hc => ?_) (fun hc => ?_)
  · replace hM := h_f hc hM
    refine lv_iload_n hx hb dX3_readLeaf_16 rfl (lv_at hl 0 rfl) ?_
    refine lv_if_eq (tgt := 30) hx hb dX3_readLeaf_17 (by decide) (fun hc => ?_) (fun hc => ?_)
    · replace hM := h_t hc hM
      refine lv_aload_n hx hb dX3_readLeaf_30 rfl (lv_at hl 1 rfl) ?_
      refine lv_iconst (v := (0 : Int32)) hx hb dX3_readLeaf_31 (by decide) ?_
      refine lv_iload_n hx hb dX3_readLeaf_32 rfl (lv_at hl 0 rfl) ?_
      refine lv_if_ne (tgt := 41) hx hb dX3_readLeaf_33 (by decide) (fun hc => ?_) (fun hc => ?_)
      · replace hM := h_f hc hM
        refine lv_aload_n hx hb dX3_readLeaf_41 rfl (lv_at hl 1 rfl) ?_
        refine a_getp (q := 12) (σ := aG r1.2) (o := 11) (T := TX3) (N := 7) C wU_X3 hw rfl (by decide) rfl 0 (by decide) rfl wF_X3_12 (aG_P rfl rfl) dX3_readLeaf_42 ?_
        refine a_geti (σ := aG r1.2) (o := 12) (T := TX2) (N := 11) C wU_X2 hw (aLin_k lin12).1 (by decide) rfl 0 (by decide) rfl wF_X3_92 dX3_readLeaf_45 ?_
        refine lv_iconst (v := (1 : Int32)) hx hb dX3_readLeaf_48 (by decide) ?_
        refine lv_isub hx hb dX3_readLeaf_49 ?_
        obtain ⟨r50, hr50, hM⟩ := h_b hM
        refine a_callV (σ' := aG r50.2) (v := (some (.int r50.1))) (As := fun ad => [.int (0 : Int32), .int ((gI r1.2 12 0) - (1 : Int32))]) (rest := []) (o := 11) C hw (c_X3_readNumber l hr50) k_X3_readNumber wM_X3_88 ⟨⟨rfl, rfl⟩, ⟨Nat.le_of_ble_eq_true rfl, Nat.le_of_ble_eq_true rfl⟩⟩ rfl (by decide) rfl rfl rfl hl rfl (Nat.le_of_ble_eq_true rfl) dX3_readLeaf_50 ⟨Nat.zero_le _, Nat.zero_le _⟩ (fun H locs hw => ?_)
        refine lv_istore_n (lv' := [(2, .int r50.1), (1, .int r1.1), (0, .ref (ad 11))]) hx hb dX3_readLeaf_53 rfl hl (by decide) rfl (fun ls hl => ?_)
        refine lv_iload_n hx hb dX3_readLeaf_54 rfl (lv_at hl 0 rfl) ?_
        refine lv_iconst (v := (-1 : Int32)) hx hb dX3_readLeaf_55 (by decide) ?_
        refine lv_icmp_ne (tgt := 61) hx hb dX3_readLeaf_56 (by decide) (fun hc => ?_) (fun hc => ?_)
        · replace hM := h_f hc hM
          refine lv_aload_n hx hb dX3_readLeaf_61 rfl (lv_at hl 2 rfl) ?_
          refine a_getp (q := 21) (σ := aG r50.2) (o := 11) (T := TX3) (N := 7) C wU_X3 hw rfl (by decide) rfl 1 (by decide) rfl wF_X3_21 (aG_P rfl rfl) dX3_readLeaf_62 ?_
          refine lv_iload_n hx hb dX3_readLeaf_65 rfl (lv_at hl 1 rfl) ?_
          refine lv_iload_n hx hb dX3_readLeaf_66 rfl (lv_at hl 0 rfl) ?_
          obtain ⟨r67, hr67, hM⟩ := h_b hM
          refine a_callV (σ' := aG r67) (v := none) (As := fun ad => [.int r1.1, .int r50.1]) (rest := []) (o := 21) C hw (c_X1_add l hr67) k_X1_add wM_X3_168 ⟨⟨rfl, rfl⟩, ⟨Nat.le_of_ble_eq_true rfl, Nat.le_of_ble_eq_true rfl⟩⟩ rfl (by decide) rfl rfl rfl hl rfl (Nat.le_of_ble_eq_true rfl) dX3_readLeaf_67 ⟨Nat.zero_le _, Nat.zero_le _⟩ (fun H locs hw => ?_)
          refine lv_iconst (v := (1 : Int32)) hx hb dX3_readLeaf_70 (by decide) ?_
          cases h_e hM
          exact a_zret C (zn (v := 1) (Or.inr rfl)) hw dX3_readLeaf_71
        · replace hM := h_t hc hM
          refine lv_iconst (v := (0 : Int32)) hx hb dX3_readLeaf_59 (by decide) ?_
          cases h_e hM
          exact a_zret C (zn (v := 0) (Or.inl rfl)) hw dX3_readLeaf_60
      · replace hM := h_t hc hM
        refine lv_bipush (v := (99 : Int32)) hx hb dX3_readLeaf_36 (by decide) ?_
        refine lv_goto (tgt := 50) hx hb dX3_readLeaf_38 (by decide) ?_
        obtain ⟨r50, hr50, hM⟩ := h_b hM
        refine a_callV (σ' := aG r50.2) (v := (some (.int r50.1))) (As := fun ad => [.int (0 : Int32), .int (99 : Int32)]) (rest := []) (o := 11) C hw (c_X3_readNumber l hr50) k_X3_readNumber wM_X3_88 ⟨⟨rfl, rfl⟩, ⟨Nat.le_of_ble_eq_true rfl, Nat.le_of_ble_eq_true rfl⟩⟩ rfl (by decide) rfl rfl rfl hl rfl (Nat.le_of_ble_eq_true rfl) dX3_readLeaf_50 ⟨Nat.zero_le _, Nat.zero_le _⟩ (fun H locs hw => ?_)
        refine lv_istore_n (lv' := [(2, .int r50.1), (1, .int r1.1), (0, .ref (ad 11))]) hx hb dX3_readLeaf_53 rfl hl (by decide) rfl (fun ls hl => ?_)
        refine lv_iload_n hx hb dX3_readLeaf_54 rfl (lv_at hl 0 rfl) ?_
        refine lv_iconst (v := (-1 : Int32)) hx hb dX3_readLeaf_55 (by decide) ?_
        refine lv_icmp_ne (tgt := 61) hx hb dX3_readLeaf_56 (by decide) (fun hc => ?_) (fun hc => ?_)
        · replace hM := h_f hc hM
          refine lv_aload_n hx hb dX3_readLeaf_61 rfl (lv_at hl 2 rfl) ?_
          refine a_getp (q := 21) (σ := aG r50.2) (o := 11) (T := TX3) (N := 7) C wU_X3 hw rfl (by decide) rfl 1 (by decide) rfl wF_X3_21 (aG_P rfl rfl) dX3_readLeaf_62 ?_
          refine lv_iload_n hx hb dX3_readLeaf_65 rfl (lv_at hl 1 rfl) ?_
          refine lv_iload_n hx hb dX3_readLeaf_66 rfl (lv_at hl 0 rfl) ?_
          obtain ⟨r67, hr67, hM⟩ := h_b hM
          refine a_callV (σ' := aG r67) (v := none) (As := fun ad => [.int r1.1, .int r50.1]) (rest := []) (o := 21) C hw (c_X1_add l hr67) k_X1_add wM_X3_168 ⟨⟨rfl, rfl⟩, ⟨Nat.le_of_ble_eq_true rfl, Nat.le_of_ble_eq_true rfl⟩⟩ rfl (by decide) rfl rfl rfl hl rfl (Nat.le_of_ble_eq_true rfl) dX3_readLeaf_67 ⟨Nat.zero_le _, Nat.zero_le _⟩ (fun H locs hw => ?_)
          refine lv_iconst (v := (1 : Int32)) hx hb dX3_readLeaf_70 (by decide) ?_
          cases h_e hM
          exact a_zret C (zn (v := 1) (Or.inr rfl)) hw dX3_readLeaf_71
        · replace hM := h_t hc hM
          refine lv_iconst (v := (0 : Int32)) hx hb dX3_readLeaf_59 (by decide) ?_
          cases h_e hM
          exact a_zret C (zn (v := 0) (Or.inl rfl)) hw dX3_readLeaf_60
    · replace hM := h_f hc hM
      refine lv_aload_n hx hb dX3_readLeaf_20 rfl (lv_at hl 1 rfl) ?_
      refine lv_dup hx hb dX3_readLeaf_21 rfl ?_
      refine a_geti (σ := aG r1.2) (o := 11) (T := TX3) (N := 7) C wU_X3 hw rfl (by decide) rfl 5 (by decide) rfl wF_X3_39 dX3_readLeaf_22 ?_
      refine lv_iconst (v := (1 : Int32)) hx hb dX3_readLeaf_25 (by decide) ?_
      refine lv_iadd hx hb dX3_readLeaf_26 ?_
      refine a_puti (ty := .int) (σ := aG r1.2) (o := 11) (T := TX3) (N := 7) (ty0 := tyX3) C wU_X3 tyX3_ok nmX3 hw rfl (by decide) rfl 5 (by decide) rfl wF_X3_39 rfl (by decide +kernel) rfl rfl dX3_readLeaf_27 (fun H locs hw => ?_)
      have hw : aW D dA ad adV (aG (pI r1.2 11 5 ((gI r1.2 11 5) + (1 : Int32)))) A s H locs := hw
      refine lv_aload_n hx hb dX3_readLeaf_30 rfl (lv_at hl 1 rfl) ?_
      refine lv_iconst (v := (0 : Int32)) hx hb dX3_readLeaf_31 (by decide) ?_
      refine lv_iload_n hx hb dX3_readLeaf_32 rfl (lv_at hl 0 rfl) ?_
      refine lv_if_ne (tgt := 41) hx hb dX3_readLeaf_33 (by decide) (fun hc => ?_) (fun hc => ?_)
      · replace hM := h_f hc hM
        refine lv_aload_n hx hb dX3_readLeaf_41 rfl (lv_at hl 1 rfl) ?_
        refine a_getp (q := 12) (σ := aG (pI r1.2 11 5 ((gI r1.2 11 5) + (1 : Int32)))) (o := 11) (T := TX3) (N := 7) C wU_X3 hw rfl (by decide) rfl 0 (by decide) rfl wF_X3_12 (aG_P rfl rfl) dX3_readLeaf_42 ?_
        refine a_geti (σ := aG (pI r1.2 11 5 ((gI r1.2 11 5) + (1 : Int32)))) (o := 12) (T := TX2) (N := 11) C wU_X2 hw (aLin_k lin12).1 (by decide) rfl 0 (by decide) rfl wF_X3_92 dX3_readLeaf_45 ?_
        refine lv_iconst (v := (1 : Int32)) hx hb dX3_readLeaf_48 (by decide) ?_
        refine lv_isub hx hb dX3_readLeaf_49 ?_
        obtain ⟨r50, hr50, hM⟩ := h_b hM
        refine a_callV (σ' := aG r50.2) (v := (some (.int r50.1))) (As := fun ad => [.int (0 : Int32), .int ((gI (pI r1.2 11 5 ((gI r1.2 11 5) + (1 : Int32))) 12 0) - (1 : Int32))]) (rest := []) (o := 11) C hw (c_X3_readNumber l hr50) k_X3_readNumber wM_X3_88 ⟨⟨rfl, rfl⟩, ⟨Nat.le_of_ble_eq_true rfl, Nat.le_of_ble_eq_true rfl⟩⟩ rfl (by decide) rfl rfl rfl hl rfl (Nat.le_of_ble_eq_true rfl) dX3_readLeaf_50 ⟨Nat.zero_le _, Nat.zero_le _⟩ (fun H locs hw => ?_)
        refine lv_istore_n (lv' := [(2, .int r50.1), (1, .int r1.1), (0, .ref (ad 11))]) hx hb dX3_readLeaf_53 rfl hl (by decide) rfl (fun ls hl => ?_)
        refine lv_iload_n hx hb dX3_readLeaf_54 rfl (lv_at hl 0 rfl) ?_
        refine lv_iconst (v := (-1 : Int32)) hx hb dX3_readLeaf_55 (by decide) ?_
        refine lv_icmp_ne (tgt := 61) hx hb dX3_readLeaf_56 (by decide) (fun hc => ?_) (fun hc => ?_)
        · replace hM := h_f hc hM
          refine lv_aload_n hx hb dX3_readLeaf_61 rfl (lv_at hl 2 rfl) ?_
          refine a_getp (q := 21) (σ := aG r50.2) (o := 11) (T := TX3) (N := 7) C wU_X3 hw rfl (by decide) rfl 1 (by decide) rfl wF_X3_21 (aG_P rfl rfl) dX3_readLeaf_62 ?_
          refine lv_iload_n hx hb dX3_readLeaf_65 rfl (lv_at hl 1 rfl) ?_
          refine lv_iload_n hx hb dX3_readLeaf_66 rfl (lv_at hl 0 rfl) ?_
          obtain ⟨r67, hr67, hM⟩ := h_b hM
          refine a_callV (σ' := aG r67) (v := none) (As := fun ad => [.int r1.1, .int r50.1]) (rest := []) (o := 21) C hw (c_X1_add l hr67) k_X1_add wM_X3_168 ⟨⟨rfl, rfl⟩, ⟨Nat.le_of_ble_eq_true rfl, Nat.le_of_ble_eq_true rfl⟩⟩ rfl (by decide) rfl rfl rfl hl rfl (Nat.le_of_ble_eq_true rfl) dX3_readLeaf_67 ⟨Nat.zero_le _, Nat.zero_le _⟩ (fun H locs hw => ?_)
          refine lv_iconst (v := (1 : Int32)) hx hb dX3_readLeaf_70 (by decide) ?_
          cases h_e hM
          exact a_zret C (zn (v := 1) (Or.inr rfl)) hw dX3_readLeaf_71
        · replace hM := h_t hc hM
          refine lv_iconst (v := (0 : Int32)) hx hb dX3_readLeaf_59 (by decide) ?_
          cases h_e hM
          exact a_zret C (zn (v := 0) (Or.inl rfl)) hw dX3_readLeaf_60
      · replace hM := h_t hc hM
        refine lv_bipush (v := (99 : Int32)) hx hb dX3_readLeaf_36 (by decide) ?_
        refine lv_goto (tgt := 50) hx hb dX3_readLeaf_38 (by decide) ?_
        obtain ⟨r50, hr50, hM⟩ := h_b hM
        refine a_callV (σ' := aG r50.2) (v := (some (.int r50.1))) (As := fun ad => [.int (0 : Int32), .int (99 : Int32)]) (rest := []) (o := 11) C hw (c_X3_readNumber l hr50) k_X3_readNumber wM_X3_88 ⟨⟨rfl, rfl⟩, ⟨Nat.le_of_ble_eq_true rfl, Nat.le_of_ble_eq_true rfl⟩⟩ rfl (by decide) rfl rfl rfl hl rfl (Nat.le_of_ble_eq_true rfl) dX3_readLeaf_50 ⟨Nat.zero_le _, Nat.zero_le _⟩ (fun H locs hw => ?_)
        refine lv_istore_n (lv' := [(2, .int r50.1), (1, .int r1.1), (0, .ref (ad 11))]) hx hb dX3_readLeaf_53 rfl hl (by decide) rfl (fun ls hl => ?_)
        refine lv_iload_n hx hb dX3_readLeaf_54 rfl (lv_at hl 0 rfl) ?_
        refine lv_iconst (v := (-1 : Int32)) hx hb dX3_readLeaf_55 (by decide) ?_
        refine lv_icmp_ne (tgt := 61) hx hb dX3_readLeaf_56 (by decide) (fun hc => ?_) (fun hc => ?_)
        · replace hM := h_f hc hM
          refine lv_aload_n hx hb dX3_readLeaf_61 rfl (lv_at hl 2 rfl) ?_
          refine a_getp (q := 21) (σ := aG r50.2) (o := 11) (T := TX3) (N := 7) C wU_X3 hw rfl (by decide) rfl 1 (by decide) rfl wF_X3_21 (aG_P rfl rfl) dX3_readLeaf_62 ?_
          refine lv_iload_n hx hb dX3_readLeaf_65 rfl (lv_at hl 1 rfl) ?_
          refine lv_iload_n hx hb dX3_readLeaf_66 rfl (lv_at hl 0 rfl) ?_
          obtain ⟨r67, hr67, hM⟩ := h_b hM
          refine a_callV (σ' := aG r67) (v := none) (As := fun ad => [.int r1.1, .int r50.1]) (rest := []) (o := 21) C hw (c_X1_add l hr67) k_X1_add wM_X3_168 ⟨⟨rfl, rfl⟩, ⟨Nat.le_of_ble_eq_true rfl, Nat.le_of_ble_eq_true rfl⟩⟩ rfl (by decide) rfl rfl rfl hl rfl (Nat.le_of_ble_eq_true rfl) dX3_readLeaf_67 ⟨Nat.zero_le _, Nat.zero_le _⟩ (fun H locs hw => ?_)
          refine lv_iconst (v := (1 : Int32)) hx hb dX3_readLeaf_70 (by decide) ?_
          cases h_e hM
          exact a_zret C (zn (v := 1) (Or.inr rfl)) hw dX3_readLeaf_71
        · replace hM := h_t hc hM
          refine lv_iconst (v := (0 : Int32)) hx hb dX3_readLeaf_59 (by decide) ?_
          cases h_e hM
          exact a_zret C (zn (v := 0) (Or.inl rfl)) hw dX3_readLeaf_60
  · replace hM := h_t hc hM
    refine lv_aload_n hx hb dX3_readLeaf_10 rfl (lv_at hl 1 rfl) ?_
    refine lv_iconst (v := (1 : Int32)) hx hb dX3_readLeaf_11 (by decide) ?_
    obtain ⟨r12, hr12, hM⟩ := h_b hM
    refine a_callV (σ' := aG r12.2) (v := (some (.int r12.1))) (As := fun ad => [.int (1 : Int32)]) (rest := []) (o := 11) C hw (c_X3_fail l hr12) k_X3_fail wM_X3_68 ⟨⟨rfl, rfl⟩, ⟨Nat.le_of_ble_eq_true rfl, Nat.le_of_ble_eq_true rfl⟩⟩ rfl (by decide) rfl rfl rfl hl rfl (Nat.le_of_ble_eq_true rfl) dX3_readLeaf_12 ⟨Nat.zero_le _, Nat.zero_le _⟩ (fun H locs hw => ?_)
    obtain ⟨hz, hM⟩ := h_g hM
    cases h_e hM
    exact a_zret C (zn hz) hw dX3_readLeaf_15
def rm_X3_settingAt : Room := { frames := 5, cells := 0, slots := 0, locals := 108 }
set_option maxHeartbeats 400000 in
set_option maxRecDepth 100000 in
theorem c_X3_settingAt (l : Launch) {ι : iS} {res : Int32 × iS} (hM : m_X3_settingAt ι = some res) : aM l yX3_settingAt cX3_settingAt 1 (some .int) rm_X3_settingAt (fun ad => [.ref (ad 11)]) (aG ι) (some (.int res.1)) (aG res.2) := by
  refine aM.of (by decide) (fun _ => Nat.le_of_ble_eq_true rfl) ?_
  intro p e s m args below meth c D dA ad adV A ls C hw hl
  have C : aX p m c cX3_settingAt 1 s args aTs RX3 meth (some .int) := C
  have hx := C.1.1
  have hb := C.1.2.1
  have hml := C.1.2.2.1
  have hown := C.1.2.2.2.1
  have hts := C.1.2.2.2.2
  have hl : lv_has ls 1 [(0, .ref (ad 11))] := hl
  unfold m_X3_settingAt at hM
  refine lv_aload_n hx hb dX3_settingAt_0 rfl (lv_at hl 0 rfl) ?_
  refine a_getp (q := 24) (σ := aG ι) (o := 11) (T := TX3) (N := 7) C wU_X3 hw rfl (by decide) rfl 3 (by decide) rfl wF_X3_32 (aG_P rfl rfl) dX3_settingAt_1 ?_
  refine lv_aload_n hx hb dX3_settingAt_4 rfl (lv_at hl 0 rfl) ?_
  refine a_geti (σ := aG ι) (o := 11) (T := TX3) (N := 7) C wU_X3 hw rfl (by decide) rfl 5 (by decide) rfl wF_X3_39 dX3_settingAt_5 ?_
  refine a_ldcS (tx := "noise") (q := 1000005) C hw (by decide) dX3_settingAt_8 ?_
  obtain ⟨r10, hr10, hM⟩ := h_b hM
  refine a_callV (σ' := aG r10.2) (v := (some (.int r10.1))) (As := fun ad => [.int (gI ι 11 5), .ref (ad 1000005)]) (rest := []) (o := 24) C hw (c_X4_isWord l (by decide) hr10) k_X4_isWord wM_X3_84 ⟨⟨rfl, rfl⟩, ⟨Nat.le_of_ble_eq_true rfl, Nat.le_of_ble_eq_true rfl⟩⟩ rfl (by decide) rfl rfl rfl hl rfl (Nat.le_of_ble_eq_true rfl) dX3_settingAt_10 ⟨Nat.zero_le _, Nat.zero_le _⟩ (fun H locs hw => ?_)
  refine lv_if_eq (tgt := 18) hx hb dX3_settingAt_13 (by decide) (fun hc => ?_) (fun hc => ?_)
  · replace hM := h_t hc hM
    refine lv_aload_n hx hb dX3_settingAt_18 rfl (lv_at hl 0 rfl) ?_
    refine a_getp (q := 24) (σ := aG r10.2) (o := 11) (T := TX3) (N := 7) C wU_X3 hw rfl (by decide) rfl 3 (by decide) rfl wF_X3_32 (aG_P rfl rfl) dX3_settingAt_19 ?_
    refine lv_aload_n hx hb dX3_settingAt_22 rfl (lv_at hl 0 rfl) ?_
    refine a_geti (σ := aG r10.2) (o := 11) (T := TX3) (N := 7) C wU_X3 hw rfl (by decide) rfl 5 (by decide) rfl wF_X3_39 dX3_settingAt_23 ?_
    refine a_ldcS (tx := "cut") (q := 1000006) C hw (by decide) dX3_settingAt_26 ?_
    obtain ⟨r28, hr28, hM⟩ := h_b hM
    refine a_callV (σ' := aG r28.2) (v := (some (.int r28.1))) (As := fun ad => [.int (gI r10.2 11 5), .ref (ad 1000006)]) (rest := []) (o := 24) C hw (c_X4_isWord l (by decide) hr28) k_X4_isWord wM_X3_84 ⟨⟨rfl, rfl⟩, ⟨Nat.le_of_ble_eq_true rfl, Nat.le_of_ble_eq_true rfl⟩⟩ rfl (by decide) rfl rfl rfl hl rfl (Nat.le_of_ble_eq_true rfl) dX3_settingAt_28 ⟨Nat.zero_le _, Nat.zero_le _⟩ (fun H locs hw => ?_)
    refine lv_if_eq (tgt := 36) hx hb dX3_settingAt_31 (by decide) (fun hc => ?_) (fun hc => ?_)
    · replace hM := h_t hc hM
      refine lv_aload_n hx hb dX3_settingAt_36 rfl (lv_at hl 0 rfl) ?_
      refine a_getp (q := 24) (σ := aG r28.2) (o := 11) (T := TX3) (N := 7) C wU_X3 hw rfl (by decide) rfl 3 (by decide) rfl wF_X3_32 (aG_P rfl rfl) dX3_settingAt_37 ?_
      refine lv_aload_n hx hb dX3_settingAt_40 rfl (lv_at hl 0 rfl) ?_
      refine a_geti (σ := aG r28.2) (o := 11) (T := TX3) (N := 7) C wU_X3 hw rfl (by decide) rfl 5 (by decide) rfl wF_X3_39 dX3_settingAt_41 ?_
      refine a_ldcS (tx := "nudge") (q := 1000007) C hw (by decide) dX3_settingAt_44 ?_
      obtain ⟨r46, hr46, hM⟩ := h_b hM
      refine a_callV (σ' := aG r46.2) (v := (some (.int r46.1))) (As := fun ad => [.int (gI r28.2 11 5), .ref (ad 1000007)]) (rest := []) (o := 24) C hw (c_X4_isWord l (by decide) hr46) k_X4_isWord wM_X3_84 ⟨⟨rfl, rfl⟩, ⟨Nat.le_of_ble_eq_true rfl, Nat.le_of_ble_eq_true rfl⟩⟩ rfl (by decide) rfl rfl rfl hl rfl (Nat.le_of_ble_eq_true rfl) dX3_settingAt_46 ⟨Nat.zero_le _, Nat.zero_le _⟩ (fun H locs hw => ?_)
      refine lv_if_eq (tgt := 54) hx hb dX3_settingAt_49 (by decide) (fun hc => ?_) (fun hc => ?_)
      · replace hM := h_t hc hM
        refine lv_aload_n hx hb dX3_settingAt_54 rfl (lv_at hl 0 rfl) ?_
        refine a_getp (q := 24) (σ := aG r46.2) (o := 11) (T := TX3) (N := 7) C wU_X3 hw rfl (by decide) rfl 3 (by decide) rfl wF_X3_32 (aG_P rfl rfl) dX3_settingAt_55 ?_
        refine lv_aload_n hx hb dX3_settingAt_58 rfl (lv_at hl 0 rfl) ?_
        refine a_geti (σ := aG r46.2) (o := 11) (T := TX3) (N := 7) C wU_X3 hw rfl (by decide) rfl 5 (by decide) rfl wF_X3_39 dX3_settingAt_59 ?_
        refine a_ldcS (tx := "prior") (q := 1000008) C hw (by decide) dX3_settingAt_62 ?_
        obtain ⟨r64, hr64, hM⟩ := h_b hM
        refine a_callV (σ' := aG r64.2) (v := (some (.int r64.1))) (As := fun ad => [.int (gI r46.2 11 5), .ref (ad 1000008)]) (rest := []) (o := 24) C hw (c_X4_isWord l (by decide) hr64) k_X4_isWord wM_X3_84 ⟨⟨rfl, rfl⟩, ⟨Nat.le_of_ble_eq_true rfl, Nat.le_of_ble_eq_true rfl⟩⟩ rfl (by decide) rfl rfl rfl hl rfl (Nat.le_of_ble_eq_true rfl) dX3_settingAt_64 ⟨Nat.zero_le _, Nat.zero_le _⟩ (fun H locs hw => ?_)
        refine lv_if_eq (tgt := 74) hx hb dX3_settingAt_67 (by decide) (fun hc => ?_) (fun hc => ?_)
        · replace hM := h_t hc hM
          refine lv_iconst (v := (-1 : Int32)) hx hb dX3_settingAt_74 (by decide) ?_
          cases h_e hM
          exact a_iret C hw dX3_settingAt_75
        · replace hM := h_f hc hM
          refine lv_iconst (v := (3 : Int32)) hx hb dX3_settingAt_70 (by decide) ?_
          refine lv_goto (tgt := 75) hx hb dX3_settingAt_71 (by decide) ?_
          cases h_e hM
          exact a_iret C hw dX3_settingAt_75
      · replace hM := h_f hc hM
        refine lv_iconst (v := (2 : Int32)) hx hb dX3_settingAt_52 (by decide) ?_
        cases h_e hM
        exact a_iret C hw dX3_settingAt_53
    · replace hM := h_f hc hM
      refine lv_iconst (v := (1 : Int32)) hx hb dX3_settingAt_34 (by decide) ?_
      cases h_e hM
      exact a_iret C hw dX3_settingAt_35
  · replace hM := h_f hc hM
    refine lv_iconst (v := (0 : Int32)) hx hb dX3_settingAt_16 (by decide) ?_
    cases h_e hM
    exact a_iret C hw dX3_settingAt_17
def rm_X3_readTraits : Room := { frames := 5, cells := 0, slots := 0, locals := 108 }
set_option maxHeartbeats 400000 in
set_option maxRecDepth 100000 in
theorem c_X3_readTraits (l : Launch) {ι : iS} {res : Int32 × iS} (hM : m_X3_readTraits ι = some res) : aM l yX3_readTraits cX3_readTraits 2 (some .boolean) rm_X3_readTraits (fun ad => [.ref (ad 11)]) (aG ι) (some (.int res.1)) (aG res.2) := by
  refine aM.of (by decide) (fun _ => Nat.le_of_ble_eq_true rfl) ?_
  intro p e s m args below meth c D dA ad adV A ls C hw hl
  have C : aX p m c cX3_readTraits 2 s args aTs RX3 meth (some .boolean) := C
  have hx := C.1.1
  have hb := C.1.2.1
  have hml := C.1.2.2.1
  have hown := C.1.2.2.2.1
  have hts := C.1.2.2.2.2
  have hl : lv_has ls 2 [(0, .ref (ad 11))] := hl
  unfold m_X3_readTraits at hM
  refine lv_aload_n hx hb dX3_readTraits_0 rfl (lv_at hl 0 rfl) ?_
  refine a_getp (q := 24) (σ := aG ι) (o := 11) (T := TX3) (N := 7) C wU_X3 hw rfl (by decide) rfl 3 (by decide) rfl wF_X3_32 (aG_P rfl rfl) dX3_readTraits_1 ?_
  refine lv_aload_n hx hb dX3_readTraits_4 rfl (lv_at hl 0 rfl) ?_
  refine a_geti (σ := aG ι) (o := 11) (T := TX3) (N := 7) C wU_X3 hw rfl (by decide) rfl 5 (by decide) rfl wF_X3_39 dX3_readTraits_5 ?_
  refine a_ldcS (tx := "traits") (q := 1000000) C hw (by decide) dX3_readTraits_8 ?_
  obtain ⟨r10, hr10, hM⟩ := h_b hM
  refine a_callV (σ' := aG r10.2) (v := (some (.int r10.1))) (As := fun ad => [.int (gI ι 11 5), .ref (ad 1000000)]) (rest := []) (o := 24) C hw (c_X4_isWord l (by decide) hr10) k_X4_isWord wM_X3_84 ⟨⟨rfl, rfl⟩, ⟨Nat.le_of_ble_eq_true rfl, Nat.le_of_ble_eq_true rfl⟩⟩ rfl (by decide) rfl rfl rfl hl rfl (Nat.le_of_ble_eq_true rfl) dX3_readTraits_10 ⟨Nat.zero_le _, Nat.zero_le _⟩ (fun H locs hw => ?_)
  refine lv_if_ne (tgt := 22) hx hb dX3_readTraits_13 (by decide) (fun hc => ?_) (fun hc => ?_)
  · replace hM := h_f hc hM
    refine lv_aload_n hx hb dX3_readTraits_22 rfl (lv_at hl 0 rfl) ?_
    refine lv_dup hx hb dX3_readTraits_23 rfl ?_
    refine a_geti (σ := aG r10.2) (o := 11) (T := TX3) (N := 7) C wU_X3 hw rfl (by decide) rfl 5 (by decide) rfl wF_X3_39 dX3_readTraits_24 ?_
    refine lv_iconst (v := (1 : Int32)) hx hb dX3_readTraits_27 (by decide) ?_
    refine lv_iadd hx hb dX3_readTraits_28 ?_
    refine a_puti (ty := .int) (σ := aG r10.2) (o := 11) (T := TX3) (N := 7) (ty0 := tyX3) C wU_X3 tyX3_ok nmX3 hw rfl (by decide) rfl 5 (by decide) rfl wF_X3_39 rfl (by decide +kernel) rfl rfl dX3_readTraits_29 (fun H locs hw => ?_)
    have hw : aW D dA ad adV (aG (pI r10.2 11 5 ((gI r10.2 11 5) + (1 : Int32)))) A s H locs := hw
    refine lv_aload_n hx hb dX3_readTraits_32 rfl (lv_at hl 0 rfl) ?_
    refine lv_iconst (v := (1 : Int32)) hx hb dX3_readTraits_33 (by decide) ?_
    refine lv_iconst (v := (5 : Int32)) hx hb dX3_readTraits_34 (by decide) ?_
    obtain ⟨r35, hr35, hM⟩ := h_b hM
    refine a_callV (σ' := aG r35.2) (v := (some (.int r35.1))) (As := fun ad => [.int (1 : Int32), .int (5 : Int32)]) (rest := []) (o := 11) C hw (c_X3_readNumber l hr35) k_X3_readNumber wM_X3_88 ⟨⟨rfl, rfl⟩, ⟨Nat.le_of_ble_eq_true rfl, Nat.le_of_ble_eq_true rfl⟩⟩ rfl (by decide) rfl rfl rfl hl rfl (Nat.le_of_ble_eq_true rfl) dX3_readTraits_35 ⟨Nat.zero_le _, Nat.zero_le _⟩ (fun H locs hw => ?_)
    refine lv_istore_n (lv' := [(1, .int r35.1), (0, .ref (ad 11))]) hx hb dX3_readTraits_38 rfl hl (by decide) rfl (fun ls hl => ?_)
    refine lv_iload_n hx hb dX3_readTraits_39 rfl (lv_at hl 0 rfl) ?_
    refine lv_iconst (v := (-1 : Int32)) hx hb dX3_readTraits_40 (by decide) ?_
    refine lv_icmp_ne (tgt := 46) hx hb dX3_readTraits_41 (by decide) (fun hc => ?_) (fun hc => ?_)
    · replace hM := h_f hc hM
      refine lv_aload_n hx hb dX3_readTraits_46 rfl (lv_at hl 1 rfl) ?_
      refine a_getp (q := 12) (σ := aG r35.2) (o := 11) (T := TX3) (N := 7) C wU_X3 hw rfl (by decide) rfl 0 (by decide) rfl wF_X3_12 (aG_P rfl rfl) dX3_readTraits_47 ?_
      refine lv_iload_n hx hb dX3_readTraits_50 rfl (lv_at hl 0 rfl) ?_
      refine a_puti (ty := .int) (σ := aG r35.2) (o := 12) (T := TX2) (N := 11) (ty0 := tyX2) C wU_X2 tyX2_ok nmX2 hw (aLin_k lin12).1 (by decide) rfl 0 (by decide) rfl wF_X3_92 rfl (by decide +kernel) rfl rfl dX3_readTraits_51 (fun H locs hw => ?_)
      have hw : aW D dA ad adV (aG (pI r35.2 12 0 r35.1)) A s H locs := hw
      refine lv_aload_n hx hb dX3_readTraits_54 rfl (lv_at hl 1 rfl) ?_
      refine lv_bipush (v := (59 : Int32)) hx hb dX3_readTraits_55 (by decide) ?_
      obtain ⟨r57, hr57, hM⟩ := h_b hM
      refine a_callV (σ' := aG r57.2) (v := (some (.int r57.1))) (As := fun ad => [.int (59 : Int32)]) (rest := []) (o := 11) C hw (c_X3_readSign l hr57) k_X3_readSign wM_X3_64 ⟨⟨rfl, rfl⟩, ⟨Nat.le_of_ble_eq_true rfl, Nat.le_of_ble_eq_true rfl⟩⟩ rfl (by decide) rfl rfl rfl hl rfl (Nat.le_of_ble_eq_true rfl) dX3_readTraits_57 ⟨Nat.zero_le _, Nat.zero_le _⟩ (fun H locs hw => ?_)
      obtain ⟨hz, hM⟩ := h_g hM
      cases h_e hM
      exact a_zret C (zn hz) hw dX3_readTraits_60
    · replace hM := h_t hc hM
      refine lv_iconst (v := (0 : Int32)) hx hb dX3_readTraits_44 (by decide) ?_
      cases h_e hM
      exact a_zret C (zn (v := 0) (Or.inl rfl)) hw dX3_readTraits_45
  · replace hM := h_t hc hM
    refine lv_aload_n hx hb dX3_readTraits_16 rfl (lv_at hl 0 rfl) ?_
    refine lv_iconst (v := (1 : Int32)) hx hb dX3_readTraits_17 (by decide) ?_
    obtain ⟨r18, hr18, hM⟩ := h_b hM
    refine a_callV (σ' := aG r18.2) (v := (some (.int r18.1))) (As := fun ad => [.int (1 : Int32)]) (rest := []) (o := 11) C hw (c_X3_fail l hr18) k_X3_fail wM_X3_68 ⟨⟨rfl, rfl⟩, ⟨Nat.le_of_ble_eq_true rfl, Nat.le_of_ble_eq_true rfl⟩⟩ rfl (by decide) rfl rfl rfl hl rfl (Nat.le_of_ble_eq_true rfl) dX3_readTraits_18 ⟨Nat.zero_le _, Nat.zero_le _⟩ (fun H locs hw => ?_)
    obtain ⟨hz, hM⟩ := h_g hM
    cases h_e hM
    exact a_zret C (zn hz) hw dX3_readTraits_21
