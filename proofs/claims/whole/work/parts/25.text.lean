def m_X6_text (x1 : Int32) (ι : iS) : Option ((Nat × iS) ⊕ (Int32 × iS)) := Option.bind (m_X6_needRange x1 (0 : Int32) (gI ι 0 1) ι) fun r7 => match r7 with | .inl r7t => some (.inl r7t) | .inr r7n => Option.bind (m_X3_read x1 r7n) fun r19 => if r19.1 = 0 then Option.bind (m_X6_keepPast (pI (pI r19.2 0 1 (0 : Int32)) 0 6 (gI (pI r19.2 0 1 (0 : Int32)) 11 2))) fun r49 => Option.bind (m_X2_copyFrom 2 12 r49) fun r63 => some (.inr ((gI r63 2 1), r63)) else some (.inr ((r19.1 - (10 : Int32)), (pI (pI r19.2 0 1 (0 : Int32)) 0 6 (gI (pI r19.2 0 1 (0 : Int32)) 11 2))))
def m_X6_fairest (x1 : Int32) (x2 : Int32) (ι : iS) : Option ((Nat × iS) ⊕ (Int64 × iS)) := Option.bind (m_X6_needRange x1 (2 : Int32) (8 : Int32) ι) fun r5 => match r5 with | .inl r5t => some (.inl r5t) | .inr r5n => Option.bind (m_X6_needRange x2 (0 : Int32) (2 : Int32) r5n) fun r12 => match r12 with | .inl r12t => some (.inl r12t) | .inr r12n => if x1 ≤ (gI r12n 2 1) then Option.bind (m_X0_chooseFrom 2 (x1 - (1 : Int32)) r12n) fun r41 => if x2 = 0 then some (.inr (((gI r41 35 0)).toInt64, r41)) else Option.bind (m_X6_partOfFraction ((gJ r41 35 1) * (gJ r41 35 1)) (gJ r41 35 2) (x2 - (1 : Int32)) r41) fun r82 => some (.inr (r82.1, r82.2)) else some (.inr ((-1 : Int64), r12n))
theorem k_X6_text : aCal RX6 yX6_text cX6_text 3 (some .int) 1 := ⟨wI_yX6_text, wE_yX6_text, wZ_X6, wC_yX6_text, by decide +kernel⟩
theorem k_X6_fairest : aCal RX6 yX6_fairest cX6_fairest 3 (some .long) 2 := ⟨wI_yX6_fairest, wE_yX6_fairest, wZ_X6, wC_yX6_fairest, by decide +kernel⟩
def fx_X6_text : Nat := 105
def wx_X6_text : Nat := 2515
set_option maxHeartbeats 4000000 in
set_option maxRecDepth 100000 in
theorem c_X6_text (l : Launch) (hst : l.stackTraces = false) {x1 : Int32} {ι : iS} {res : (Nat × iS) ⊕ (Int32 × iS)} (hM : m_X6_text x1 ι = some res) : aMx l yX6_text cX6_text 3 (some .int) fx_X6_text wx_X6_text (fun ad => [.ref (ad 0), .int x1]) (aG ι) (xoi res) := by
  refine aMx.of (by decide) (fun _ => Nat.le_of_ble_eq_true rfl) ?_
  intro p e s m args below meth c D dA ad adV A ls C hw hl hout
  have C : aX p m c cX6_text 3 s args aTs RX6 meth (some .int) := C
  have hx := C.1.1
  have hb := C.1.2.1
  have hml := C.1.2.2.1
  have hown := C.1.2.2.2.1
  have hts := C.1.2.2.2.2
  have hl : lv_has ls 3 [(0, .ref (ad 0)), (1, .int x1)] := hl
  unfold m_X6_text at hM
  refine lv_aload_n hx hb dX6_text_0 rfl (lv_at hl 0 rfl) ?_
  refine lv_iload_n hx hb dX6_text_1 rfl (lv_at hl 1 rfl) ?_
  refine lv_iconst (v := (0 : Int32)) hx hb dX6_text_2 (by decide) ?_
  refine lv_aload_n hx hb dX6_text_3 rfl (lv_at hl 0 rfl) ?_
  refine a_geti (σ := aG ι) (o := 0) (T := TX6) (N := 11) C wU_X6 hw rfl (by decide) rfl 1 (by decide) rfl wF_X6_13 dX6_text_4 ?_
  obtain ⟨r7, hr7, hM⟩ := h_b hM
  cases r7 with
  | inl r7t =>
    replace hM : some (Sum.inl r7t) = some res := hM
    cases h_e hM
    have q9 := c_X6_needRange l hst hr7
    exact x_callT (σ' := aG r7t.2) (E := aEx r7t.1) (As := fun ad => [.int x1, .int (0 : Int32), .int (gI ι 0 1)]) (rest := []) (ob := 0) C hw hout q9 k_X6_needRange wM_X6_91 ⟨Nat.le_of_ble_eq_true rfl, Nat.le_of_ble_eq_true rfl⟩ rfl (by decide) rfl rfl rfl hl rfl (Nat.le_of_ble_eq_true rfl) dX6_text_7
  | inr r7n =>
    replace hM : (Option.bind (m_X3_read x1 r7n) fun r19 => if r19.1 = 0 then Option.bind (m_X6_keepPast (pI (pI r19.2 0 1 (0 : Int32)) 0 6 (gI (pI r19.2 0 1 (0 : Int32)) 11 2))) fun r49 => Option.bind (m_X2_copyFrom 2 12 r49) fun r63 => some (.inr ((gI r63 2 1), r63)) else some (.inr ((r19.1 - (10 : Int32)), (pI (pI r19.2 0 1 (0 : Int32)) 0 6 (gI (pI r19.2 0 1 (0 : Int32)) 11 2))))) = some res := hM
    have q9 := c_X6_needRange l hst hr7
    refine x_callN (σ' := aG r7n) (v := none) (As := fun ad => [.int x1, .int (0 : Int32), .int (gI ι 0 1)]) (rest := []) (ob := 0) C hw q9 k_X6_needRange wM_X6_91 ⟨Nat.le_of_ble_eq_true rfl, Nat.le_of_ble_eq_true rfl⟩ rfl (by decide) rfl rfl rfl hl rfl (Nat.le_of_ble_eq_true rfl) dX6_text_7 ⟨Nat.zero_le _, Nat.zero_le _⟩ (fun H locs hw => ?_)
    refine lv_aload_n hx hb dX6_text_10 rfl (lv_at hl 0 rfl) ?_
    refine a_getp (q := 11) (σ := aG r7n) (o := 0) (T := TX6) (N := 11) C wU_X6 hw rfl (by decide) rfl 3 (by decide) rfl wF_X6_27 (aG_P rfl rfl) dX6_text_11 ?_
    refine lv_aload_n hx hb dX6_text_14 rfl (lv_at hl 0 rfl) ?_
    refine a_getp (q := 1) (σ := aG r7n) (o := 0) (T := TX6) (N := 11) C wU_X6 hw rfl (by decide) rfl 0 (by decide) rfl wF_X6_9 (aG_P rfl rfl) dX6_text_15 ?_
    refine lv_iload_n hx hb dX6_text_18 rfl (lv_at hl 1 rfl) ?_
    obtain ⟨r19, hr19, hM⟩ := h_b hM
    refine a_callV (σ' := aG r19.2) (v := (some (.int r19.1))) (As := fun ad => [.ref (ad 1), .int x1]) (rest := []) (o := 11) C hw (c_X3_read l hr19) k_X3_read wM_X6_95 ⟨⟨rfl, rfl⟩, ⟨Nat.le_of_ble_eq_true rfl, Nat.le_of_ble_eq_true rfl⟩⟩ rfl (by decide) rfl rfl rfl hl rfl (Nat.le_of_ble_eq_true rfl) dX6_text_19 ⟨Nat.zero_le _, Nat.zero_le _⟩ (fun H locs hw => ?_)
    refine lv_istore_n (lv' := [(2, .int r19.1), (0, .ref (ad 0)), (1, .int x1)]) hx hb dX6_text_22 rfl hl (by decide) rfl (fun ls hl => ?_)
    refine lv_aload_n hx hb dX6_text_23 rfl (lv_at hl 1 rfl) ?_
    refine lv_iconst (v := (0 : Int32)) hx hb dX6_text_24 (by decide) ?_
    refine a_puti (ty := .int) (σ := aG r19.2) (o := 0) (T := TX6) (N := 11) (ty0 := tyX6) C wU_X6 tyX6_ok nmX6 hw rfl (by decide) rfl 1 (by decide) rfl wF_X6_13 rfl (by decide +kernel) rfl rfl dX6_text_25 (fun H locs hw => ?_)
    have hw : aW D dA ad adV (aG (pI r19.2 0 1 (0 : Int32))) A s H locs := by rw [aG_PI] at hw; exact hw
    refine lv_aload_n hx hb dX6_text_28 rfl (lv_at hl 1 rfl) ?_
    refine lv_aload_n hx hb dX6_text_29 rfl (lv_at hl 1 rfl) ?_
    refine a_getp (q := 11) (σ := aG (pI r19.2 0 1 (0 : Int32))) (o := 0) (T := TX6) (N := 11) C wU_X6 hw rfl (by decide) rfl 3 (by decide) rfl wF_X6_27 (aG_P rfl rfl) dX6_text_30 ?_
    refine a_geti (σ := aG (pI r19.2 0 1 (0 : Int32))) (o := 11) (T := TX3) (N := 7) C wU_X3 hw rfl (by decide) rfl 2 (by decide) rfl wF_X6_99 dX6_text_33 ?_
    refine a_puti (ty := .int) (σ := aG (pI r19.2 0 1 (0 : Int32))) (o := 0) (T := TX6) (N := 11) (ty0 := tyX6) C wU_X6 tyX6_ok nmX6 hw rfl (by decide) rfl 6 (by decide) rfl wF_X6_38 rfl (by decide +kernel) rfl rfl dX6_text_36 (fun H locs hw => ?_)
    have hw : aW D dA ad adV (aG (pI (pI r19.2 0 1 (0 : Int32)) 0 6 (gI (pI r19.2 0 1 (0 : Int32)) 11 2))) A s H locs := by rw [aG_PI] at hw; exact hw
    refine lv_iload_n hx hb dX6_text_39 rfl (lv_at hl 0 rfl) ?_
    refine lv_if_eq (tgt := 48) hx hb dX6_text_40 (by decide) (fun hc => ?_) (fun hc => ?_)
    · replace hM := h_t hc hM
      refine lv_aload_n hx hb dX6_text_48 rfl (lv_at hl 1 rfl) ?_
      obtain ⟨r49, hr49, hM⟩ := h_b hM
      refine a_callV (σ' := aG r49) (v := none) (As := fun ad => []) (rest := []) (o := 0) C hw (c_X6_keepPast l hr49) k_X6_keepPast wM_X6_100 ⟨⟨rfl, rfl⟩, ⟨Nat.le_of_ble_eq_true rfl, Nat.le_of_ble_eq_true rfl⟩⟩ rfl (by decide) rfl rfl rfl hl rfl (Nat.le_of_ble_eq_true rfl) dX6_text_49 ⟨Nat.zero_le _, Nat.zero_le _⟩ (fun H locs hw => ?_)
      refine lv_aload_n hx hb dX6_text_52 rfl (lv_at hl 1 rfl) ?_
      refine a_getp (q := 2) (σ := aG r49) (o := 0) (T := TX6) (N := 11) C wU_X6 hw rfl (by decide) rfl 2 (by decide) rfl wF_X6_20 (aG_P rfl rfl) dX6_text_53 ?_
      refine lv_aload_n hx hb dX6_text_56 rfl (lv_at hl 1 rfl) ?_
      refine a_getp (q := 11) (σ := aG r49) (o := 0) (T := TX6) (N := 11) C wU_X6 hw rfl (by decide) rfl 3 (by decide) rfl wF_X6_27 (aG_P rfl rfl) dX6_text_57 ?_
      refine a_getp (q := 12) (σ := aG r49) (o := 11) (T := TX3) (N := 7) C wU_X3 hw rfl (by decide) rfl 0 (by decide) rfl wF_X6_103 (aG_P rfl rfl) dX6_text_60 ?_
      obtain ⟨r63, hr63, hM⟩ := h_b hM
      refine a_callV (σ' := aG r63) (v := none) (As := fun ad => [.ref (ad 12)]) (rest := []) (o := 2) C hw (c_X2_copyFrom l (lin2) (lin12) hr63) k_X2_copyFrom wM_X6_106 ⟨⟨rfl, rfl⟩, ⟨Nat.le_of_ble_eq_true rfl, Nat.le_of_ble_eq_true rfl⟩⟩ (aLin_k lin2).1 (by decide) rfl rfl rfl hl rfl (Nat.le_of_ble_eq_true rfl) dX6_text_63 ⟨Nat.zero_le _, Nat.zero_le _⟩ (fun H locs hw => ?_)
      refine lv_aload_n hx hb dX6_text_66 rfl (lv_at hl 1 rfl) ?_
      refine a_getp (q := 2) (σ := aG r63) (o := 0) (T := TX6) (N := 11) C wU_X6 hw rfl (by decide) rfl 2 (by decide) rfl wF_X6_20 (aG_P rfl rfl) dX6_text_67 ?_
      refine a_geti (σ := aG r63) (o := 2) (T := TX2) (N := 11) C wU_X2 hw (aLin_k lin2).1 (by decide) rfl 1 (by decide) rfl wF_X6_109 dX6_text_70 ?_
      cases h_e hM
      exact x_iret C hw dX6_text_73
    · replace hM := h_f hc hM
      refine lv_iload_n hx hb dX6_text_43 rfl (lv_at hl 0 rfl) ?_
      refine lv_bipush (v := (10 : Int32)) hx hb dX6_text_44 (by decide) ?_
      refine lv_isub hx hb dX6_text_46 ?_
      cases h_e hM
      exact x_iret C hw dX6_text_47
def fx_X6_fairest : Nat := 62
def wx_X6_fairest : Nat := 1654
set_option maxHeartbeats 4000000 in
set_option maxRecDepth 100000 in
theorem c_X6_fairest (l : Launch) (hst : l.stackTraces = false) {x1 : Int32} {x2 : Int32} {ι : iS} {res : (Nat × iS) ⊕ (Int64 × iS)} (hM : m_X6_fairest x1 x2 ι = some res) : aMx l yX6_fairest cX6_fairest 3 (some .long) fx_X6_fairest wx_X6_fairest (fun ad => [.ref (ad 0), .int x1, .int x2]) (aG ι) (xol res) := by
  refine aMx.of (by decide) (fun _ => Nat.le_of_ble_eq_true rfl) ?_
  intro p e s m args below meth c D dA ad adV A ls C hw hl hout
  have C : aX p m c cX6_fairest 3 s args aTs RX6 meth (some .long) := C
  have hx := C.1.1
  have hb := C.1.2.1
  have hml := C.1.2.2.1
  have hown := C.1.2.2.2.1
  have hts := C.1.2.2.2.2
  have hl : lv_has ls 3 [(0, .ref (ad 0)), (1, .int x1), (2, .int x2)] := hl
  unfold m_X6_fairest at hM
  refine lv_aload_n hx hb dX6_fairest_0 rfl (lv_at hl 0 rfl) ?_
  refine lv_iload_n hx hb dX6_fairest_1 rfl (lv_at hl 1 rfl) ?_
  refine lv_iconst (v := (2 : Int32)) hx hb dX6_fairest_2 (by decide) ?_
  refine lv_bipush (v := (8 : Int32)) hx hb dX6_fairest_3 (by decide) ?_
  obtain ⟨r5, hr5, hM⟩ := h_b hM
  cases r5 with
  | inl r5t =>
    replace hM : some (Sum.inl r5t) = some res := hM
    cases h_e hM
    have q9 := c_X6_needRange l hst hr5
    exact x_callT (σ' := aG r5t.2) (E := aEx r5t.1) (As := fun ad => [.int x1, .int (2 : Int32), .int (8 : Int32)]) (rest := []) (ob := 0) C hw hout q9 k_X6_needRange wM_X6_91 ⟨Nat.le_of_ble_eq_true rfl, Nat.le_of_ble_eq_true rfl⟩ rfl (by decide) rfl rfl rfl hl rfl (Nat.le_of_ble_eq_true rfl) dX6_fairest_5
  | inr r5n =>
    replace hM : (Option.bind (m_X6_needRange x2 (0 : Int32) (2 : Int32) r5n) fun r12 => match r12 with | .inl r12t => some (.inl r12t) | .inr r12n => if x1 ≤ (gI r12n 2 1) then Option.bind (m_X0_chooseFrom 2 (x1 - (1 : Int32)) r12n) fun r41 => if x2 = 0 then some (.inr (((gI r41 35 0)).toInt64, r41)) else Option.bind (m_X6_partOfFraction ((gJ r41 35 1) * (gJ r41 35 1)) (gJ r41 35 2) (x2 - (1 : Int32)) r41) fun r82 => some (.inr (r82.1, r82.2)) else some (.inr ((-1 : Int64), r12n))) = some res := hM
    have q9 := c_X6_needRange l hst hr5
    refine x_callN (σ' := aG r5n) (v := none) (As := fun ad => [.int x1, .int (2 : Int32), .int (8 : Int32)]) (rest := []) (ob := 0) C hw q9 k_X6_needRange wM_X6_91 ⟨Nat.le_of_ble_eq_true rfl, Nat.le_of_ble_eq_true rfl⟩ rfl (by decide) rfl rfl rfl hl rfl (Nat.le_of_ble_eq_true rfl) dX6_fairest_5 ⟨Nat.zero_le _, Nat.zero_le _⟩ (fun H locs hw => ?_)
    refine lv_aload_n hx hb dX6_fairest_8 rfl (lv_at hl 0 rfl) ?_
    refine lv_iload_n hx hb dX6_fairest_9 rfl (lv_at hl 2 rfl) ?_
    refine lv_iconst (v := (0 : Int32)) hx hb dX6_fairest_10 (by decide) ?_
    refine lv_iconst (v := (2 : Int32)) hx hb dX6_fairest_11 (by decide) ?_
    obtain ⟨r12, hr12, hM⟩ := h_b hM
    cases r12 with
    | inl r12t =>
      replace hM : some (Sum.inl r12t) = some res := hM
      cases h_e hM
      have q9 := c_X6_needRange l hst hr12
      exact x_callT (σ' := aG r12t.2) (E := aEx r12t.1) (As := fun ad => [.int x2, .int (0 : Int32), .int (2 : Int32)]) (rest := []) (ob := 0) C hw hout q9 k_X6_needRange wM_X6_91 ⟨Nat.le_of_ble_eq_true rfl, Nat.le_of_ble_eq_true rfl⟩ rfl (by decide) rfl rfl rfl hl rfl (Nat.le_of_ble_eq_true rfl) dX6_fairest_12
    | inr r12n =>
      replace hM : (if x1 ≤ (gI r12n 2 1) then Option.bind (m_X0_chooseFrom 2 (x1 - (1 : Int32)) r12n) fun r41 => if x2 = 0 then some (.inr (((gI r41 35 0)).toInt64, r41)) else Option.bind (m_X6_partOfFraction ((gJ r41 35 1) * (gJ r41 35 1)) (gJ r41 35 2) (x2 - (1 : Int32)) r41) fun r82 => some (.inr (r82.1, r82.2)) else some (.inr ((-1 : Int64), r12n))) = some res := hM
      have q9 := c_X6_needRange l hst hr12
      refine x_callN (σ' := aG r12n) (v := none) (As := fun ad => [.int x2, .int (0 : Int32), .int (2 : Int32)]) (rest := []) (ob := 0) C hw q9 k_X6_needRange wM_X6_91 ⟨Nat.le_of_ble_eq_true rfl, Nat.le_of_ble_eq_true rfl⟩ rfl (by decide) rfl rfl rfl hl rfl (Nat.le_of_ble_eq_true rfl) dX6_fairest_12 ⟨Nat.zero_le _, Nat.zero_le _⟩ (fun H locs hw => ?_)
      refine lv_iload_n hx hb dX6_fairest_15 rfl (lv_at hl 1 rfl) ?_
      refine lv_aload_n hx hb dX6_fairest_16 rfl (lv_at hl 0 rfl) ?_
      refine a_getp (q := 2) (σ := aG r12n) (o := 0) (T := TX6) (N := 11) C wU_X6 hw rfl (by decide) rfl 2 (by decide) rfl wF_X6_20 (aG_P rfl rfl) dX6_fairest_17 ?_
      refine a_geti (σ := aG r12n) (o := 2) (T := TX2) (N := 11) C wU_X2 hw (aLin_k lin2).1 (by decide) rfl 1 (by decide) rfl wF_X6_109 dX6_fairest_20 ?_
      refine lv_icmp_le (tgt := 30) hx hb dX6_fairest_23 (by decide) (fun hc => ?_) (fun hc => ?_)
      · replace hM := h_t hc hM
        refine lv_aload_n hx hb dX6_fairest_30 rfl (lv_at hl 0 rfl) ?_
        refine a_getp (q := 35) (σ := aG r12n) (o := 0) (T := TX6) (N := 11) C wU_X6 hw rfl (by decide) rfl 10 (by decide) rfl wF_X6_58 (aG_P rfl rfl) dX6_fairest_31 ?_
        refine lv_aload_n hx hb dX6_fairest_34 rfl (lv_at hl 0 rfl) ?_
        refine a_getp (q := 2) (σ := aG r12n) (o := 0) (T := TX6) (N := 11) C wU_X6 hw rfl (by decide) rfl 2 (by decide) rfl wF_X6_20 (aG_P rfl rfl) dX6_fairest_35 ?_
        refine lv_iload_n hx hb dX6_fairest_38 rfl (lv_at hl 1 rfl) ?_
        refine lv_iconst (v := (1 : Int32)) hx hb dX6_fairest_39 (by decide) ?_
        refine lv_isub hx hb dX6_fairest_40 ?_
        obtain ⟨r41, hr41, hM⟩ := h_b hM
        refine a_callV (σ' := aG r41) (v := none) (As := fun ad => [.ref (ad 2), .int (x1 - (1 : Int32))]) (rest := []) (o := 35) C hw (c_X0_chooseFrom l (lin2) hr41) k_X0_chooseFrom wM_X6_189 ⟨⟨rfl, rfl⟩, ⟨Nat.le_of_ble_eq_true rfl, Nat.le_of_ble_eq_true rfl⟩⟩ rfl (by decide) rfl rfl rfl hl rfl (Nat.le_of_ble_eq_true rfl) dX6_fairest_41 ⟨Nat.zero_le _, Nat.zero_le _⟩ (fun H locs hw => ?_)
        refine lv_iload_n hx hb dX6_fairest_44 rfl (lv_at hl 2 rfl) ?_
        refine lv_if_ne (tgt := 57) hx hb dX6_fairest_45 (by decide) (fun hc => ?_) (fun hc => ?_)
        · replace hM := h_f hc hM
          refine lv_aload_n hx hb dX6_fairest_57 rfl (lv_at hl 0 rfl) ?_
          refine a_getp (q := 35) (σ := aG r41) (o := 0) (T := TX6) (N := 11) C wU_X6 hw rfl (by decide) rfl 10 (by decide) rfl wF_X6_58 (aG_P rfl rfl) dX6_fairest_58 ?_
          refine a_getj (σ := aG r41) (o := 35) (T := TX0) (N := 6) C wU_X0 hw rfl (by decide) rfl 1 (by decide) rfl wF_X6_196 dX6_fairest_61 ?_
          refine lv_aload_n hx hb dX6_fairest_64 rfl (lv_at hl 0 rfl) ?_
          refine a_getp (q := 35) (σ := aG r41) (o := 0) (T := TX6) (N := 11) C wU_X6 hw rfl (by decide) rfl 10 (by decide) rfl wF_X6_58 (aG_P rfl rfl) dX6_fairest_65 ?_
          refine a_getj (σ := aG r41) (o := 35) (T := TX0) (N := 6) C wU_X0 hw rfl (by decide) rfl 1 (by decide) rfl wF_X6_196 dX6_fairest_68 ?_
          refine lv_lmul hx hb dX6_fairest_71 ?_
          refine lv_aload_n hx hb dX6_fairest_72 rfl (lv_at hl 0 rfl) ?_
          refine a_getp (q := 35) (σ := aG r41) (o := 0) (T := TX6) (N := 11) C wU_X6 hw rfl (by decide) rfl 10 (by decide) rfl wF_X6_58 (aG_P rfl rfl) dX6_fairest_73 ?_
          refine a_getj (σ := aG r41) (o := 35) (T := TX0) (N := 6) C wU_X0 hw rfl (by decide) rfl 2 (by decide) rfl wF_X6_200 dX6_fairest_76 ?_
          refine lv_iload_n hx hb dX6_fairest_79 rfl (lv_at hl 2 rfl) ?_
          refine lv_iconst (v := (1 : Int32)) hx hb dX6_fairest_80 (by decide) ?_
          refine lv_isub hx hb dX6_fairest_81 ?_
          obtain ⟨r82, hr82, hM⟩ := h_b hM
          refine a_callS  (σ' := aG r82.2) (v := (some (.long r82.1))) (as := fun ad => [.long ((gJ r41 35 1) * (gJ r41 35 1)), .long (gJ r41 35 2), .int (x2 - (1 : Int32))]) (rest := []) C hw (c_X6_partOfFraction l hr82) k_X6_partOfFraction wM_X6_176 ⟨⟨rfl, rfl⟩, ⟨Nat.le_of_ble_eq_true rfl, Nat.le_of_ble_eq_true rfl⟩⟩ rfl hl rfl (Nat.le_of_ble_eq_true rfl) dX6_fairest_82 ⟨Nat.zero_le _, Nat.zero_le _⟩ (fun H locs hw => ?_)
          cases h_e hM
          exact x_lret C hw dX6_fairest_85
        · replace hM := h_t hc hM
          refine lv_aload_n hx hb dX6_fairest_48 rfl (lv_at hl 0 rfl) ?_
          refine a_getp (q := 35) (σ := aG r41) (o := 0) (T := TX6) (N := 11) C wU_X6 hw rfl (by decide) rfl 10 (by decide) rfl wF_X6_58 (aG_P rfl rfl) dX6_fairest_49 ?_
          refine a_geti (σ := aG r41) (o := 35) (T := TX0) (N := 6) C wU_X0 hw rfl (by decide) rfl 0 (by decide) rfl wF_X6_193 dX6_fairest_52 ?_
          refine lv_i2l hx hb dX6_fairest_55 rfl ?_
          cases h_e hM
          exact x_lret C hw dX6_fairest_56
      · replace hM := h_f hc hM
        refine lv_ldc2 (v := (-1 : Int64)) hx hb hown (hts _ wQ_X6_187) dX6_fairest_26 ?_
        cases h_e hM
        exact x_lret C hw dX6_fairest_29
