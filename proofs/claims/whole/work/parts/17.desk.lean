def m_X6_show (x1 : Int32) (ι : iS) : Option ((Nat × iS) ⊕ (Int32 × iS)) := Option.bind (m_X6_needPerson x1 ι) fun r2 => match r2 with | .inl r2t => some (.inl r2t) | .inr r2n => Option.bind (m_X2_placeOf 2 x1 r2n) fun r11 => if r11.1 = (-1 : Int32) then if (8 : Int32) ≤ (gI r11.2 2 2) then Option.bind (m_X6_needState (0 : Int32) r11.2) fun r35 => match r35 with | .inl r35t => some (.inl r35t) | .inr r35n => Option.bind (m_X6_keepPast r35n) fun r39 => Option.bind (m_X2_showLast 2 x1 r39) fun r47 => some (.inr ((gI r47 2 2), r47)) else Option.bind (m_X6_needState (1 : Int32) r11.2) fun r35 => match r35 with | .inl r35t => some (.inl r35t) | .inr r35n => Option.bind (m_X6_keepPast r35n) fun r39 => Option.bind (m_X2_showLast 2 x1 r39) fun r47 => some (.inr ((gI r47 2 2), r47)) else Option.bind (m_X6_needState (0 : Int32) r11.2) fun r35 => match r35 with | .inl r35t => some (.inl r35t) | .inr r35n => Option.bind (m_X6_keepPast r35n) fun r39 => Option.bind (m_X2_showLast 2 x1 r39) fun r47 => some (.inr ((gI r47 2 2), r47))
def m_X6_hide (x1 : Int32) (ι : iS) : Option ((Nat × iS) ⊕ (Int32 × iS)) := Option.bind (m_X6_needPlace x1 ι) fun r2 => match r2 with | .inl r2t => some (.inl r2t) | .inr r2n => Option.bind (m_X6_keepPast r2n) fun r6 => Option.bind (m_X2_hideAt 2 x1 r6) fun r14 => some (.inr ((gI r14 2 2), r14))
def m_X6_change (x1 : Int32) (x2 : Int32) (ι : iS) : Option ((Nat × iS) ⊕ (Int32 × iS)) := Option.bind (m_X6_needRange x1 (0 : Int32) (3 : Int32) ι) fun r4 => match r4 with | .inl r4t => some (.inl r4t) | .inr r4n => if aIn x1 4 = true then if aIn x1 4 = true then Option.bind (m_X6_needRange x2 (aSt 0 x1.toNatClampNeg) (aSt 1 x1.toNatClampNeg) r4n) fun r19 => match r19 with | .inl r19t => some (.inl r19t) | .inr r19n => Option.bind (m_X6_keepPast r19n) fun r23 => if aIn x1 4 = true then if aIn x1 4 = true then some (.inr ((gI r23 6 x1.toNatClampNeg), (pI r23 6 x1.toNatClampNeg x2))) else none else none else none else none
def m_X6_mock (x1 : Int32) (ι : iS) : Option ((Nat × iS) ⊕ (Int32 × iS)) := Option.bind (m_X6_needPerson x1 ι) fun r2 => match r2 with | .inl r2t => some (.inl r2t) | .inr r2n => Option.bind (m_X2_placeOf 2 x1 r2n) fun r11 => if r11.1 = (-1 : Int32) then Option.bind (m_X6_needState (0 : Int32) r11.2) fun r38 => match r38 with | .inl r38t => some (.inl r38t) | .inr r38n => Option.bind (m_X6_keepPast r38n) fun r42 => if aIn x1 16 = true then if aIn x1 16 = true then if aIn x1 16 = true then some (.inr ((gI (pI r42 8 x1.toNatClampNeg ((gI r42 8 x1.toNatClampNeg) + (1 : Int32))) 8 x1.toNatClampNeg), (pI r42 8 x1.toNatClampNeg ((gI r42 8 x1.toNatClampNeg) + (1 : Int32))))) else none else none else none else if aIn x1 16 = true then if (999 : Int32) ≤ (gI r11.2 8 x1.toNatClampNeg) then Option.bind (m_X6_needState (0 : Int32) r11.2) fun r38 => match r38 with | .inl r38t => some (.inl r38t) | .inr r38n => Option.bind (m_X6_keepPast r38n) fun r42 => if aIn x1 16 = true then if aIn x1 16 = true then if aIn x1 16 = true then some (.inr ((gI (pI r42 8 x1.toNatClampNeg ((gI r42 8 x1.toNatClampNeg) + (1 : Int32))) 8 x1.toNatClampNeg), (pI r42 8 x1.toNatClampNeg ((gI r42 8 x1.toNatClampNeg) + (1 : Int32))))) else none else none else none else Option.bind (m_X6_needState (1 : Int32) r11.2) fun r38 => match r38 with | .inl r38t => some (.inl r38t) | .inr r38n => Option.bind (m_X6_keepPast r38n) fun r42 => if aIn x1 16 = true then if aIn x1 16 = true then if aIn x1 16 = true then some (.inr ((gI (pI r42 8 x1.toNatClampNeg ((gI r42 8 x1.toNatClampNeg) + (1 : Int32))) 8 x1.toNatClampNeg), (pI r42 8 x1.toNatClampNeg ((gI r42 8 x1.toNatClampNeg) + (1 : Int32))))) else none else none else none else none
def m_X6_told (x1 : Int32) (ι : iS) : Option ((Nat × iS) ⊕ (Int32 × iS)) := Option.bind (m_X6_needRange x1 (0 : Int32) (9 : Int32) ι) fun r5 => match r5 with | .inl r5t => some (.inl r5t) | .inr r5n => if x1 = 0 then some (.inr ((gI r5n 2 0), r5n)) else if x1 = 1 then some (.inr ((gI r5n 2 1), r5n)) else if x1 = 2 then some (.inr ((gI r5n 2 2), r5n)) else if x1 = 3 then if aIn (x1 - (3 : Int32)) 4 = true then some (.inr ((gI r5n 6 (x1 - (3 : Int32)).toNatClampNeg), r5n)) else none else if x1 = 4 then if aIn (x1 - (3 : Int32)) 4 = true then some (.inr ((gI r5n 6 (x1 - (3 : Int32)).toNatClampNeg), r5n)) else none else if x1 = 5 then if aIn (x1 - (3 : Int32)) 4 = true then some (.inr ((gI r5n 6 (x1 - (3 : Int32)).toNatClampNeg), r5n)) else none else if x1 = 6 then if aIn (x1 - (3 : Int32)) 4 = true then some (.inr ((gI r5n 6 (x1 - (3 : Int32)).toNatClampNeg), r5n)) else none else if x1 = 7 then Option.bind (m_X2_allMockPicks 2 r5n) fun r92 => some (.inr (r92.1, r92.2)) else if x1 = 8 then some (.inr ((gI r5n 0 1), r5n)) else if x1 = 9 then some (.inr ((gI r5n 0 5), r5n)) else if aIn (x1 - (3 : Int32)) 4 = true then some (.inr ((gI r5n 6 (x1 - (3 : Int32)).toNatClampNeg), r5n)) else none
def m_X6_trait (x1 : Int32) (x2 : Int32) (ι : iS) : Option ((Nat × iS) ⊕ (Int32 × iS)) := Option.bind (m_X6_needTrait x1 ι) fun r2 => match r2 with | .inl r2t => some (.inl r2t) | .inr r2n => Option.bind (m_X6_needRange x2 (0 : Int32) (1 : Int32) r2n) fun r9 => match r9 with | .inl r9t => some (.inl r9t) | .inr r9n => if x2 = 0 then if aIn x1 5 = true then some (.inr ((gI r9n 4 x1.toNatClampNeg), r9n)) else none else if aIn x1 5 = true then some (.inr ((gI r9n 5 x1.toNatClampNeg), r9n)) else none
def m_X6_value (x1 : Int32) (x2 : Int32) (ι : iS) : Option ((Nat × iS) ⊕ (Int32 × iS)) := Option.bind (m_X6_needPerson x1 ι) fun r2 => match r2 with | .inl r2t => some (.inl r2t) | .inr r2n => Option.bind (m_X6_needTrait x2 r2n) fun r7 => match r7 with | .inl r7t => some (.inl r7t) | .inr r7n => Option.bind (m_X2_valueOf 2 x1 x2 r7n) fun r16 => some (.inr (r16.1, r16.2))
def m_X6_shown (x1 : Int32) (ι : iS) : Option ((Nat × iS) ⊕ (Int32 × iS)) := Option.bind (m_X6_needPlace x1 ι) fun r2 => match r2 with | .inl r2t => some (.inl r2t) | .inr r2n => if aIn x1 8 = true then some (.inr ((gI r2n 7 x1.toNatClampNeg), r2n)) else none
def m_X6_match (x1 : Int32) (x2 : Int32) (ι : iS) : Option ((Nat × iS) ⊕ (Int32 × iS)) := Option.bind (m_X6_needPerson x1 ι) fun r2 => match r2 with | .inl r2t => some (.inl r2t) | .inr r2n => Option.bind (m_X2_matchOf 2 x1 x2 r2n) fun r11 => some (.inr (r11.1, r11.2))
def m_X6_mocks (x1 : Int32) (ι : iS) : Option ((Nat × iS) ⊕ (Int32 × iS)) := Option.bind (m_X6_needPerson x1 ι) fun r2 => match r2 with | .inl r2t => some (.inl r2t) | .inr r2n => if aIn x1 16 = true then some (.inr ((gI r2n 8 x1.toNatClampNeg), r2n)) else none
def l_X6_alike_15 : Nat → Int32 → Int32 → Int32 → Int32 → iS → Option ((Nat × iS) ⊕ (Int32 × iS))
  | 0, _, _, _, _, _ => none
  | n + 1, y1, y2, y3, y4, ι => if (gI ι 2 0) ≤ y4 then some (.inr (y3, ι)) else Option.bind (m_X2_valueOf 2 y1 y4 ι) fun r34 => Option.bind (m_X2_valueOf 2 y2 y4 r34.2) fun r44 => if r34.1 = r44.1 then l_X6_alike_15 n y1 y2 (y3 ||| ((1 : Int32) <<< (y4 &&& 31))) (y4 + 1) r44.2 else l_X6_alike_15 n y1 y2 y3 (y4 + 1) r44.2
def m_X6_alike (x1 : Int32) (x2 : Int32) (ι : iS) : Option ((Nat × iS) ⊕ (Int32 × iS)) := Option.bind (m_X6_needPerson x1 ι) fun r2 => match r2 with | .inl r2t => some (.inl r2t) | .inr r2n => Option.bind (m_X6_needPerson x2 r2n) fun r7 => match r7 with | .inl r7t => some (.inl r7t) | .inr r7n => l_X6_alike_15 aF x1 x2 (0 : Int32) (0 : Int32) r7n
def fx_X6_show : Nat := 7
def wx_X6_show : Nat := 111
theorem k_X6_show : aCal RX6 yX6_show cX6_show 2 (some .int) 1 := ⟨wI_yX6_show, wE_yX6_show, wZ_X6, wC_yX6_show, by decide +kernel⟩
set_option maxHeartbeats 400000 in
set_option maxRecDepth 100000 in
theorem c_X6_show (l : Launch) (hst : l.stackTraces = false) {x1 : Int32} {ι : iS} {res : (Nat × iS) ⊕ (Int32 × iS)} (hM : m_X6_show x1 ι = some res) : aMx l yX6_show cX6_show 2 (some .int) fx_X6_show wx_X6_show (fun ad => [.ref (ad 0), .int x1]) (aG ι) (xoi res) := by
  refine aMx.of (by decide) (fun _ => Nat.le_of_ble_eq_true rfl) ?_
  intro p e s m args below meth c D dA ad adV A ls C hw hl hout
  have C : aX p m c cX6_show 2 s args aTs RX6 meth (some .int) := C
  have hx := C.1.1
  have hb := C.1.2.1
  have hml := C.1.2.2.1
  have hown := C.1.2.2.2.1
  have hts := C.1.2.2.2.2
  have hl : lv_has ls 2 [(0, .ref (ad 0)), (1, .int x1)] := hl
  unfold m_X6_show at hM
  refine lv_aload_n hx hb dX6_show_0 rfl (lv_at hl 0 rfl) ?_
  refine lv_iload_n hx hb dX6_show_1 rfl (lv_at hl 1 rfl) ?_
  obtain ⟨r2, hr2, hM⟩ := h_b hM
  cases r2 with
  | inl r2t =>
    replace hM : some (Sum.inl r2t) = some res := hM
    cases h_e hM
    have q9 := c_X6_needPerson l hst hr2
    exact x_callT (σ' := aG r2t.2) (E := aEx r2t.1) (As := fun ad => [.int x1]) (rest := []) (ob := 0) C hw hout q9 k_X6_needPerson wM_X6_112 ⟨Nat.le_of_ble_eq_true rfl, Nat.le_of_ble_eq_true rfl⟩ rfl (by decide) rfl rfl rfl hl rfl (Nat.le_of_ble_eq_true rfl) dX6_show_2
  | inr r2n =>
    replace hM : (Option.bind (m_X2_placeOf 2 x1 r2n) fun r11 => if r11.1 = (-1 : Int32) then if (8 : Int32) ≤ (gI r11.2 2 2) then Option.bind (m_X6_needState (0 : Int32) r11.2) fun r35 => match r35 with | .inl r35t => some (.inl r35t) | .inr r35n => Option.bind (m_X6_keepPast r35n) fun r39 => Option.bind (m_X2_showLast 2 x1 r39) fun r47 => some (.inr ((gI r47 2 2), r47)) else Option.bind (m_X6_needState (1 : Int32) r11.2) fun r35 => match r35 with | .inl r35t => some (.inl r35t) | .inr r35n => Option.bind (m_X6_keepPast r35n) fun r39 => Option.bind (m_X2_showLast 2 x1 r39) fun r47 => some (.inr ((gI r47 2 2), r47)) else Option.bind (m_X6_needState (0 : Int32) r11.2) fun r35 => match r35 with | .inl r35t => some (.inl r35t) | .inr r35n => Option.bind (m_X6_keepPast r35n) fun r39 => Option.bind (m_X2_showLast 2 x1 r39) fun r47 => some (.inr ((gI r47 2 2), r47))) = some res := hM
    have q9 := c_X6_needPerson l hst hr2
    refine x_callN (σ' := aG r2n) (v := none) (As := fun ad => [.int x1]) (rest := []) (ob := 0) C hw q9 k_X6_needPerson wM_X6_112 ⟨Nat.le_of_ble_eq_true rfl, Nat.le_of_ble_eq_true rfl⟩ rfl (by decide) rfl rfl rfl hl rfl (Nat.le_of_ble_eq_true rfl) dX6_show_2 ⟨Nat.zero_le _, Nat.zero_le _⟩ (fun H locs hw => ?_)
    refine lv_aload_n hx hb dX6_show_5 rfl (lv_at hl 0 rfl) ?_
    refine lv_aload_n hx hb dX6_show_6 rfl (lv_at hl 0 rfl) ?_
    refine a_getp (q := 2) (σ := aG r2n) (o := 0) (T := TX6) (N := 11) C wU_X6 hw rfl (by decide) rfl 2 (by decide) rfl wF_X6_20 (aG_P rfl rfl) dX6_show_7 ?_
    refine lv_iload_n hx hb dX6_show_10 rfl (lv_at hl 1 rfl) ?_
    obtain ⟨r11, hr11, hM⟩ := h_b hM
    refine a_callV (σ' := aG r11.2) (v := (some (.int r11.1))) (As := fun ad => [.int x1]) (rest := [.ref (ad 0)]) (o := 2) C hw (c_X2_placeOf l (lin2) hr11) k_X2_placeOf wM_X6_115 ⟨⟨rfl, rfl⟩, ⟨Nat.le_of_ble_eq_true rfl, Nat.le_of_ble_eq_true rfl⟩⟩ (aLin_k lin2).1 (by decide) rfl rfl rfl hl rfl (Nat.le_of_ble_eq_true rfl) dX6_show_11 ⟨Nat.zero_le _, Nat.zero_le _⟩ (fun H locs hw => ?_)
    refine lv_iconst (v := (-1 : Int32)) hx hb dX6_show_14 (by decide) ?_
    refine lv_icmp_ne (tgt := 34) hx hb dX6_show_15 (by decide) (fun hc => ?_) (fun hc => ?_)
    · replace hM := h_f hc hM
      refine lv_iconst (v := (0 : Int32)) hx hb dX6_show_34 (by decide) ?_
      obtain ⟨r35, hr35, hM⟩ := h_b hM
      cases r35 with
      | inl r35t =>
        replace hM : some (Sum.inl r35t) = some res := hM
        cases h_e hM
        have q9 := c_X6_needState l hst hr35
        exact x_callT (σ' := aG r35t.2) (E := aEx r35t.1) (As := fun ad => [.int (0 : Int32)]) (rest := []) (ob := 0) C hw hout q9 k_X6_needState wM_X6_122 ⟨Nat.le_of_ble_eq_true rfl, Nat.le_of_ble_eq_true rfl⟩ rfl (by decide) rfl rfl rfl hl rfl (Nat.le_of_ble_eq_true rfl) dX6_show_35
      | inr r35n =>
        replace hM : (Option.bind (m_X6_keepPast r35n) fun r39 => Option.bind (m_X2_showLast 2 x1 r39) fun r47 => some (.inr ((gI r47 2 2), r47))) = some res := hM
        have q9 := c_X6_needState l hst hr35
        refine x_callN (σ' := aG r35n) (v := none) (As := fun ad => [.int (0 : Int32)]) (rest := []) (ob := 0) C hw q9 k_X6_needState wM_X6_122 ⟨Nat.le_of_ble_eq_true rfl, Nat.le_of_ble_eq_true rfl⟩ rfl (by decide) rfl rfl rfl hl rfl (Nat.le_of_ble_eq_true rfl) dX6_show_35 ⟨Nat.zero_le _, Nat.zero_le _⟩ (fun H locs hw => ?_)
        refine lv_aload_n hx hb dX6_show_38 rfl (lv_at hl 0 rfl) ?_
        obtain ⟨r39, hr39, hM⟩ := h_b hM
        refine a_callV (σ' := aG r39) (v := none) (As := fun ad => []) (rest := []) (o := 0) C hw (c_X6_keepPast l hr39) k_X6_keepPast wM_X6_100 ⟨⟨rfl, rfl⟩, ⟨Nat.le_of_ble_eq_true rfl, Nat.le_of_ble_eq_true rfl⟩⟩ rfl (by decide) rfl rfl rfl hl rfl (Nat.le_of_ble_eq_true rfl) dX6_show_39 ⟨Nat.zero_le _, Nat.zero_le _⟩ (fun H locs hw => ?_)
        refine lv_aload_n hx hb dX6_show_42 rfl (lv_at hl 0 rfl) ?_
        refine a_getp (q := 2) (σ := aG r39) (o := 0) (T := TX6) (N := 11) C wU_X6 hw rfl (by decide) rfl 2 (by decide) rfl wF_X6_20 (aG_P rfl rfl) dX6_show_43 ?_
        refine lv_iload_n hx hb dX6_show_46 rfl (lv_at hl 1 rfl) ?_
        obtain ⟨r47, hr47, hM⟩ := h_b hM
        refine a_callV (σ' := aG r47) (v := none) (As := fun ad => [.int x1]) (rest := []) (o := 2) C hw (c_X2_showLast l (lin2) hr47) k_X2_showLast wM_X6_126 ⟨⟨rfl, rfl⟩, ⟨Nat.le_of_ble_eq_true rfl, Nat.le_of_ble_eq_true rfl⟩⟩ (aLin_k lin2).1 (by decide) rfl rfl rfl hl rfl (Nat.le_of_ble_eq_true rfl) dX6_show_47 ⟨Nat.zero_le _, Nat.zero_le _⟩ (fun H locs hw => ?_)
        refine lv_aload_n hx hb dX6_show_50 rfl (lv_at hl 0 rfl) ?_
        refine a_getp (q := 2) (σ := aG r47) (o := 0) (T := TX6) (N := 11) C wU_X6 hw rfl (by decide) rfl 2 (by decide) rfl wF_X6_20 (aG_P rfl rfl) dX6_show_51 ?_
        refine a_geti (σ := aG r47) (o := 2) (T := TX2) (N := 11) C wU_X2 hw (aLin_k lin2).1 (by decide) rfl 2 (by decide) rfl wF_X6_119 dX6_show_54 ?_
        cases h_e hM
        exact x_iret C hw dX6_show_57
    · replace hM := h_t hc hM
      refine lv_aload_n hx hb dX6_show_18 rfl (lv_at hl 0 rfl) ?_
      refine a_getp (q := 2) (σ := aG r11.2) (o := 0) (T := TX6) (N := 11) C wU_X6 hw rfl (by decide) rfl 2 (by decide) rfl wF_X6_20 (aG_P rfl rfl) dX6_show_19 ?_
      refine a_geti (σ := aG r11.2) (o := 2) (T := TX2) (N := 11) C wU_X2 hw (aLin_k lin2).1 (by decide) rfl 2 (by decide) rfl wF_X6_119 dX6_show_22 ?_
      refine lv_bipush (v := (8 : Int32)) hx hb dX6_show_25 (by decide) ?_
      refine lv_icmp_ge (tgt := 34) hx hb dX6_show_27 (by decide) (fun hc => ?_) (fun hc => ?_)
      · replace hM := h_t hc hM
        refine lv_iconst (v := (0 : Int32)) hx hb dX6_show_34 (by decide) ?_
        obtain ⟨r35, hr35, hM⟩ := h_b hM
        cases r35 with
        | inl r35t =>
          replace hM : some (Sum.inl r35t) = some res := hM
          cases h_e hM
          have q9 := c_X6_needState l hst hr35
          exact x_callT (σ' := aG r35t.2) (E := aEx r35t.1) (As := fun ad => [.int (0 : Int32)]) (rest := []) (ob := 0) C hw hout q9 k_X6_needState wM_X6_122 ⟨Nat.le_of_ble_eq_true rfl, Nat.le_of_ble_eq_true rfl⟩ rfl (by decide) rfl rfl rfl hl rfl (Nat.le_of_ble_eq_true rfl) dX6_show_35
        | inr r35n =>
          replace hM : (Option.bind (m_X6_keepPast r35n) fun r39 => Option.bind (m_X2_showLast 2 x1 r39) fun r47 => some (.inr ((gI r47 2 2), r47))) = some res := hM
          have q9 := c_X6_needState l hst hr35
          refine x_callN (σ' := aG r35n) (v := none) (As := fun ad => [.int (0 : Int32)]) (rest := []) (ob := 0) C hw q9 k_X6_needState wM_X6_122 ⟨Nat.le_of_ble_eq_true rfl, Nat.le_of_ble_eq_true rfl⟩ rfl (by decide) rfl rfl rfl hl rfl (Nat.le_of_ble_eq_true rfl) dX6_show_35 ⟨Nat.zero_le _, Nat.zero_le _⟩ (fun H locs hw => ?_)
          refine lv_aload_n hx hb dX6_show_38 rfl (lv_at hl 0 rfl) ?_
          obtain ⟨r39, hr39, hM⟩ := h_b hM
          refine a_callV (σ' := aG r39) (v := none) (As := fun ad => []) (rest := []) (o := 0) C hw (c_X6_keepPast l hr39) k_X6_keepPast wM_X6_100 ⟨⟨rfl, rfl⟩, ⟨Nat.le_of_ble_eq_true rfl, Nat.le_of_ble_eq_true rfl⟩⟩ rfl (by decide) rfl rfl rfl hl rfl (Nat.le_of_ble_eq_true rfl) dX6_show_39 ⟨Nat.zero_le _, Nat.zero_le _⟩ (fun H locs hw => ?_)
          refine lv_aload_n hx hb dX6_show_42 rfl (lv_at hl 0 rfl) ?_
          refine a_getp (q := 2) (σ := aG r39) (o := 0) (T := TX6) (N := 11) C wU_X6 hw rfl (by decide) rfl 2 (by decide) rfl wF_X6_20 (aG_P rfl rfl) dX6_show_43 ?_
          refine lv_iload_n hx hb dX6_show_46 rfl (lv_at hl 1 rfl) ?_
          obtain ⟨r47, hr47, hM⟩ := h_b hM
          refine a_callV (σ' := aG r47) (v := none) (As := fun ad => [.int x1]) (rest := []) (o := 2) C hw (c_X2_showLast l (lin2) hr47) k_X2_showLast wM_X6_126 ⟨⟨rfl, rfl⟩, ⟨Nat.le_of_ble_eq_true rfl, Nat.le_of_ble_eq_true rfl⟩⟩ (aLin_k lin2).1 (by decide) rfl rfl rfl hl rfl (Nat.le_of_ble_eq_true rfl) dX6_show_47 ⟨Nat.zero_le _, Nat.zero_le _⟩ (fun H locs hw => ?_)
          refine lv_aload_n hx hb dX6_show_50 rfl (lv_at hl 0 rfl) ?_
          refine a_getp (q := 2) (σ := aG r47) (o := 0) (T := TX6) (N := 11) C wU_X6 hw rfl (by decide) rfl 2 (by decide) rfl wF_X6_20 (aG_P rfl rfl) dX6_show_51 ?_
          refine a_geti (σ := aG r47) (o := 2) (T := TX2) (N := 11) C wU_X2 hw (aLin_k lin2).1 (by decide) rfl 2 (by decide) rfl wF_X6_119 dX6_show_54 ?_
          cases h_e hM
          exact x_iret C hw dX6_show_57
      · replace hM := h_f hc hM
        refine lv_iconst (v := (1 : Int32)) hx hb dX6_show_30 (by decide) ?_
        refine lv_goto (tgt := 35) hx hb dX6_show_31 (by decide) ?_
        obtain ⟨r35, hr35, hM⟩ := h_b hM
        cases r35 with
        | inl r35t =>
          replace hM : some (Sum.inl r35t) = some res := hM
          cases h_e hM
          have q9 := c_X6_needState l hst hr35
          exact x_callT (σ' := aG r35t.2) (E := aEx r35t.1) (As := fun ad => [.int (1 : Int32)]) (rest := []) (ob := 0) C hw hout q9 k_X6_needState wM_X6_122 ⟨Nat.le_of_ble_eq_true rfl, Nat.le_of_ble_eq_true rfl⟩ rfl (by decide) rfl rfl rfl hl rfl (Nat.le_of_ble_eq_true rfl) dX6_show_35
        | inr r35n =>
          replace hM : (Option.bind (m_X6_keepPast r35n) fun r39 => Option.bind (m_X2_showLast 2 x1 r39) fun r47 => some (.inr ((gI r47 2 2), r47))) = some res := hM
          have q9 := c_X6_needState l hst hr35
          refine x_callN (σ' := aG r35n) (v := none) (As := fun ad => [.int (1 : Int32)]) (rest := []) (ob := 0) C hw q9 k_X6_needState wM_X6_122 ⟨Nat.le_of_ble_eq_true rfl, Nat.le_of_ble_eq_true rfl⟩ rfl (by decide) rfl rfl rfl hl rfl (Nat.le_of_ble_eq_true rfl) dX6_show_35 ⟨Nat.zero_le _, Nat.zero_le _⟩ (fun H locs hw => ?_)
          refine lv_aload_n hx hb dX6_show_38 rfl (lv_at hl 0 rfl) ?_
          obtain ⟨r39, hr39, hM⟩ := h_b hM
          refine a_callV (σ' := aG r39) (v := none) (As := fun ad => []) (rest := []) (o := 0) C hw (c_X6_keepPast l hr39) k_X6_keepPast wM_X6_100 ⟨⟨rfl, rfl⟩, ⟨Nat.le_of_ble_eq_true rfl, Nat.le_of_ble_eq_true rfl⟩⟩ rfl (by decide) rfl rfl rfl hl rfl (Nat.le_of_ble_eq_true rfl) dX6_show_39 ⟨Nat.zero_le _, Nat.zero_le _⟩ (fun H locs hw => ?_)
          refine lv_aload_n hx hb dX6_show_42 rfl (lv_at hl 0 rfl) ?_
          refine a_getp (q := 2) (σ := aG r39) (o := 0) (T := TX6) (N := 11) C wU_X6 hw rfl (by decide) rfl 2 (by decide) rfl wF_X6_20 (aG_P rfl rfl) dX6_show_43 ?_
          refine lv_iload_n hx hb dX6_show_46 rfl (lv_at hl 1 rfl) ?_
          obtain ⟨r47, hr47, hM⟩ := h_b hM
          refine a_callV (σ' := aG r47) (v := none) (As := fun ad => [.int x1]) (rest := []) (o := 2) C hw (c_X2_showLast l (lin2) hr47) k_X2_showLast wM_X6_126 ⟨⟨rfl, rfl⟩, ⟨Nat.le_of_ble_eq_true rfl, Nat.le_of_ble_eq_true rfl⟩⟩ (aLin_k lin2).1 (by decide) rfl rfl rfl hl rfl (Nat.le_of_ble_eq_true rfl) dX6_show_47 ⟨Nat.zero_le _, Nat.zero_le _⟩ (fun H locs hw => ?_)
          refine lv_aload_n hx hb dX6_show_50 rfl (lv_at hl 0 rfl) ?_
          refine a_getp (q := 2) (σ := aG r47) (o := 0) (T := TX6) (N := 11) C wU_X6 hw rfl (by decide) rfl 2 (by decide) rfl wF_X6_20 (aG_P rfl rfl) dX6_show_51 ?_
          refine a_geti (σ := aG r47) (o := 2) (T := TX2) (N := 11) C wU_X2 hw (aLin_k lin2).1 (by decide) rfl 2 (by decide) rfl wF_X6_119 dX6_show_54 ?_
          cases h_e hM
          exact x_iret C hw dX6_show_57
def fx_X6_hide : Nat := 7
def wx_X6_hide : Nat := 111
theorem k_X6_hide : aCal RX6 yX6_hide cX6_hide 2 (some .int) 1 := ⟨wI_yX6_hide, wE_yX6_hide, wZ_X6, wC_yX6_hide, by decide +kernel⟩
set_option maxHeartbeats 400000 in
set_option maxRecDepth 100000 in
theorem c_X6_hide (l : Launch) (hst : l.stackTraces = false) {x1 : Int32} {ι : iS} {res : (Nat × iS) ⊕ (Int32 × iS)} (hM : m_X6_hide x1 ι = some res) : aMx l yX6_hide cX6_hide 2 (some .int) fx_X6_hide wx_X6_hide (fun ad => [.ref (ad 0), .int x1]) (aG ι) (xoi res) := by
  refine aMx.of (by decide) (fun _ => Nat.le_of_ble_eq_true rfl) ?_
  intro p e s m args below meth c D dA ad adV A ls C hw hl hout
  have C : aX p m c cX6_hide 2 s args aTs RX6 meth (some .int) := C
  have hx := C.1.1
  have hb := C.1.2.1
  have hml := C.1.2.2.1
  have hown := C.1.2.2.2.1
  have hts := C.1.2.2.2.2
  have hl : lv_has ls 2 [(0, .ref (ad 0)), (1, .int x1)] := hl
  unfold m_X6_hide at hM
  refine lv_aload_n hx hb dX6_hide_0 rfl (lv_at hl 0 rfl) ?_
  refine lv_iload_n hx hb dX6_hide_1 rfl (lv_at hl 1 rfl) ?_
  obtain ⟨r2, hr2, hM⟩ := h_b hM
  cases r2 with
  | inl r2t =>
    replace hM : some (Sum.inl r2t) = some res := hM
    cases h_e hM
    have q9 := c_X6_needPlace l hst hr2
    exact x_callT (σ' := aG r2t.2) (E := aEx r2t.1) (As := fun ad => [.int x1]) (rest := []) (ob := 0) C hw hout q9 k_X6_needPlace wM_X6_129 ⟨Nat.le_of_ble_eq_true rfl, Nat.le_of_ble_eq_true rfl⟩ rfl (by decide) rfl rfl rfl hl rfl (Nat.le_of_ble_eq_true rfl) dX6_hide_2
  | inr r2n =>
    replace hM : (Option.bind (m_X6_keepPast r2n) fun r6 => Option.bind (m_X2_hideAt 2 x1 r6) fun r14 => some (.inr ((gI r14 2 2), r14))) = some res := hM
    have q9 := c_X6_needPlace l hst hr2
    refine x_callN (σ' := aG r2n) (v := none) (As := fun ad => [.int x1]) (rest := []) (ob := 0) C hw q9 k_X6_needPlace wM_X6_129 ⟨Nat.le_of_ble_eq_true rfl, Nat.le_of_ble_eq_true rfl⟩ rfl (by decide) rfl rfl rfl hl rfl (Nat.le_of_ble_eq_true rfl) dX6_hide_2 ⟨Nat.zero_le _, Nat.zero_le _⟩ (fun H locs hw => ?_)
    refine lv_aload_n hx hb dX6_hide_5 rfl (lv_at hl 0 rfl) ?_
    obtain ⟨r6, hr6, hM⟩ := h_b hM
    refine a_callV (σ' := aG r6) (v := none) (As := fun ad => []) (rest := []) (o := 0) C hw (c_X6_keepPast l hr6) k_X6_keepPast wM_X6_100 ⟨⟨rfl, rfl⟩, ⟨Nat.le_of_ble_eq_true rfl, Nat.le_of_ble_eq_true rfl⟩⟩ rfl (by decide) rfl rfl rfl hl rfl (Nat.le_of_ble_eq_true rfl) dX6_hide_6 ⟨Nat.zero_le _, Nat.zero_le _⟩ (fun H locs hw => ?_)
    refine lv_aload_n hx hb dX6_hide_9 rfl (lv_at hl 0 rfl) ?_
    refine a_getp (q := 2) (σ := aG r6) (o := 0) (T := TX6) (N := 11) C wU_X6 hw rfl (by decide) rfl 2 (by decide) rfl wF_X6_20 (aG_P rfl rfl) dX6_hide_10 ?_
    refine lv_iload_n hx hb dX6_hide_13 rfl (lv_at hl 1 rfl) ?_
    obtain ⟨r14, hr14, hM⟩ := h_b hM
    refine a_callV (σ' := aG r14) (v := none) (As := fun ad => [.int x1]) (rest := []) (o := 2) C hw (c_X2_hideAt l (lin2) hr14) k_X2_hideAt wM_X6_132 ⟨⟨rfl, rfl⟩, ⟨Nat.le_of_ble_eq_true rfl, Nat.le_of_ble_eq_true rfl⟩⟩ (aLin_k lin2).1 (by decide) rfl rfl rfl hl rfl (Nat.le_of_ble_eq_true rfl) dX6_hide_14 ⟨Nat.zero_le _, Nat.zero_le _⟩ (fun H locs hw => ?_)
    refine lv_aload_n hx hb dX6_hide_17 rfl (lv_at hl 0 rfl) ?_
    refine a_getp (q := 2) (σ := aG r14) (o := 0) (T := TX6) (N := 11) C wU_X6 hw rfl (by decide) rfl 2 (by decide) rfl wF_X6_20 (aG_P rfl rfl) dX6_hide_18 ?_
    refine a_geti (σ := aG r14) (o := 2) (T := TX2) (N := 11) C wU_X2 hw (aLin_k lin2).1 (by decide) rfl 2 (by decide) rfl wF_X6_119 dX6_hide_21 ?_
    cases h_e hM
    exact x_iret C hw dX6_hide_24
def fx_X6_change : Nat := 7
def wx_X6_change : Nat := 113
theorem k_X6_change : aCal RX6 yX6_change cX6_change 4 (some .int) 2 := ⟨wI_yX6_change, wE_yX6_change, wZ_X6, wC_yX6_change, by decide +kernel⟩
set_option maxHeartbeats 400000 in
set_option maxRecDepth 100000 in
theorem c_X6_change (l : Launch) (hst : l.stackTraces = false) {x1 : Int32} {x2 : Int32} {ι : iS} {res : (Nat × iS) ⊕ (Int32 × iS)} (hM : m_X6_change x1 x2 ι = some res) : aMx l yX6_change cX6_change 4 (some .int) fx_X6_change wx_X6_change (fun ad => [.ref (ad 0), .int x1, .int x2]) (aG ι) (xoi res) := by
  refine aMx.of (by decide) (fun _ => Nat.le_of_ble_eq_true rfl) ?_
  intro p e s m args below meth c D dA ad adV A ls C hw hl hout
  have C : aX p m c cX6_change 4 s args aTs RX6 meth (some .int) := C
  have hx := C.1.1
  have hb := C.1.2.1
  have hml := C.1.2.2.1
  have hown := C.1.2.2.2.1
  have hts := C.1.2.2.2.2
  have hl : lv_has ls 4 [(0, .ref (ad 0)), (1, .int x1), (2, .int x2)] := hl
  unfold m_X6_change at hM
  refine lv_aload_n hx hb dX6_change_0 rfl (lv_at hl 0 rfl) ?_
  refine lv_iload_n hx hb dX6_change_1 rfl (lv_at hl 1 rfl) ?_
  refine lv_iconst (v := (0 : Int32)) hx hb dX6_change_2 (by decide) ?_
  refine lv_iconst (v := (3 : Int32)) hx hb dX6_change_3 (by decide) ?_
  obtain ⟨r4, hr4, hM⟩ := h_b hM
  cases r4 with
  | inl r4t =>
    replace hM : some (Sum.inl r4t) = some res := hM
    cases h_e hM
    have q9 := c_X6_needRange l hst hr4
    exact x_callT (σ' := aG r4t.2) (E := aEx r4t.1) (As := fun ad => [.int x1, .int (0 : Int32), .int (3 : Int32)]) (rest := []) (ob := 0) C hw hout q9 k_X6_needRange wM_X6_91 ⟨Nat.le_of_ble_eq_true rfl, Nat.le_of_ble_eq_true rfl⟩ rfl (by decide) rfl rfl rfl hl rfl (Nat.le_of_ble_eq_true rfl) dX6_change_4
  | inr r4n =>
    replace hM : (if aIn x1 4 = true then if aIn x1 4 = true then Option.bind (m_X6_needRange x2 (aSt 0 x1.toNatClampNeg) (aSt 1 x1.toNatClampNeg) r4n) fun r19 => match r19 with | .inl r19t => some (.inl r19t) | .inr r19n => Option.bind (m_X6_keepPast r19n) fun r23 => if aIn x1 4 = true then if aIn x1 4 = true then some (.inr ((gI r23 6 x1.toNatClampNeg), (pI r23 6 x1.toNatClampNeg x2))) else none else none else none else none) = some res := hM
    have q9 := c_X6_needRange l hst hr4
    refine x_callN (σ' := aG r4n) (v := none) (As := fun ad => [.int x1, .int (0 : Int32), .int (3 : Int32)]) (rest := []) (ob := 0) C hw q9 k_X6_needRange wM_X6_91 ⟨Nat.le_of_ble_eq_true rfl, Nat.le_of_ble_eq_true rfl⟩ rfl (by decide) rfl rfl rfl hl rfl (Nat.le_of_ble_eq_true rfl) dX6_change_4 ⟨Nat.zero_le _, Nat.zero_le _⟩ (fun H locs hw => ?_)
    refine lv_aload_n hx hb dX6_change_7 rfl (lv_at hl 0 rfl) ?_
    refine lv_iload_n hx hb dX6_change_8 rfl (lv_at hl 2 rfl) ?_
    refine a_gets (j := 0) C hw (by decide) wF_X6_135 dX6_change_9 ?_
    refine lv_iload_n hx hb dX6_change_12 rfl (lv_at hl 1 rfl) ?_
    obtain ⟨hi, hM⟩ := h_i hM
    refine a_ti (j := 0) C hw (by decide) hi rfl dX6_change_13 ?_
    refine a_gets (j := 1) C hw (by decide) wF_X6_138 dX6_change_14 ?_
    refine lv_iload_n hx hb dX6_change_17 rfl (lv_at hl 1 rfl) ?_
    obtain ⟨hi, hM⟩ := h_i hM
    refine a_ti (j := 1) C hw (by decide) hi rfl dX6_change_18 ?_
    obtain ⟨r19, hr19, hM⟩ := h_b hM
    cases r19 with
    | inl r19t =>
      replace hM : some (Sum.inl r19t) = some res := hM
      cases h_e hM
      have q9 := c_X6_needRange l hst hr19
      exact x_callT (σ' := aG r19t.2) (E := aEx r19t.1) (As := fun ad => [.int x2, .int (aSt 0 x1.toNatClampNeg), .int (aSt 1 x1.toNatClampNeg)]) (rest := []) (ob := 0) C hw hout q9 k_X6_needRange wM_X6_91 ⟨Nat.le_of_ble_eq_true rfl, Nat.le_of_ble_eq_true rfl⟩ rfl (by decide) rfl rfl rfl hl rfl (Nat.le_of_ble_eq_true rfl) dX6_change_19
    | inr r19n =>
      replace hM : (Option.bind (m_X6_keepPast r19n) fun r23 => if aIn x1 4 = true then if aIn x1 4 = true then some (.inr ((gI r23 6 x1.toNatClampNeg), (pI r23 6 x1.toNatClampNeg x2))) else none else none) = some res := hM
      have q9 := c_X6_needRange l hst hr19
      refine x_callN (σ' := aG r19n) (v := none) (As := fun ad => [.int x2, .int (aSt 0 x1.toNatClampNeg), .int (aSt 1 x1.toNatClampNeg)]) (rest := []) (ob := 0) C hw q9 k_X6_needRange wM_X6_91 ⟨Nat.le_of_ble_eq_true rfl, Nat.le_of_ble_eq_true rfl⟩ rfl (by decide) rfl rfl rfl hl rfl (Nat.le_of_ble_eq_true rfl) dX6_change_19 ⟨Nat.zero_le _, Nat.zero_le _⟩ (fun H locs hw => ?_)
      refine lv_aload_n hx hb dX6_change_22 rfl (lv_at hl 0 rfl) ?_
      obtain ⟨r23, hr23, hM⟩ := h_b hM
      refine a_callV (σ' := aG r23) (v := none) (As := fun ad => []) (rest := []) (o := 0) C hw (c_X6_keepPast l hr23) k_X6_keepPast wM_X6_100 ⟨⟨rfl, rfl⟩, ⟨Nat.le_of_ble_eq_true rfl, Nat.le_of_ble_eq_true rfl⟩⟩ rfl (by decide) rfl rfl rfl hl rfl (Nat.le_of_ble_eq_true rfl) dX6_change_23 ⟨Nat.zero_le _, Nat.zero_le _⟩ (fun H locs hw => ?_)
      refine lv_aload_n hx hb dX6_change_26 rfl (lv_at hl 0 rfl) ?_
      refine a_getp (q := 2) (σ := aG r23) (o := 0) (T := TX6) (N := 11) C wU_X6 hw rfl (by decide) rfl 2 (by decide) rfl wF_X6_20 (aG_P rfl rfl) dX6_change_27 ?_
      refine a_getp (q := 6) (σ := aG r23) (o := 2) (T := TX2) (N := 11) C wU_X2 hw (aLin_k lin2).1 (by decide) rfl 6 (by decide) rfl wF_X6_141 (aLin_p lin2 r23 3 (by decide)) dX6_change_30 ?_
      refine lv_iload_n hx hb dX6_change_33 rfl (lv_at hl 1 rfl) ?_
      obtain ⟨hi, hM⟩ := h_i hM
      refine a_iald (σ := aG r23) (o := 6) C hw rfl hi rfl dX6_change_34 ?_
      refine lv_istore_n (lv' := [(3, .int (gI r23 6 x1.toNatClampNeg)), (0, .ref (ad 0)), (1, .int x1), (2, .int x2)]) hx hb dX6_change_35 rfl hl (by decide) rfl (fun ls hl => ?_)
      refine lv_aload_n hx hb dX6_change_36 rfl (lv_at hl 1 rfl) ?_
      refine a_getp (q := 2) (σ := aG r23) (o := 0) (T := TX6) (N := 11) C wU_X6 hw rfl (by decide) rfl 2 (by decide) rfl wF_X6_20 (aG_P rfl rfl) dX6_change_37 ?_
      refine a_getp (q := 6) (σ := aG r23) (o := 2) (T := TX2) (N := 11) C wU_X2 hw (aLin_k lin2).1 (by decide) rfl 6 (by decide) rfl wF_X6_141 (aLin_p lin2 r23 3 (by decide)) dX6_change_40 ?_
      refine lv_iload_n hx hb dX6_change_43 rfl (lv_at hl 2 rfl) ?_
      refine lv_iload_n hx hb dX6_change_44 rfl (lv_at hl 3 rfl) ?_
      obtain ⟨hi, hM⟩ := h_i hM
      refine a_iast (σ := aG r23) (o := 6) C hw rfl hi rfl dX6_change_45 (fun H locs hw => ?_)
      have hw : aW D dA ad adV (aG (pI r23 6 x1.toNatClampNeg x2)) A s H locs := hw
      refine lv_iload_n hx hb dX6_change_46 rfl (lv_at hl 0 rfl) ?_
      cases h_e hM
      exact x_iret C hw dX6_change_47
def fx_X6_mock : Nat := 7
def wx_X6_mock : Nat := 111
theorem k_X6_mock : aCal RX6 yX6_mock cX6_mock 2 (some .int) 1 := ⟨wI_yX6_mock, wE_yX6_mock, wZ_X6, wC_yX6_mock, by decide +kernel⟩
set_option maxHeartbeats 400000 in
set_option maxRecDepth 100000 in
theorem c_X6_mock (l : Launch) (hst : l.stackTraces = false) {x1 : Int32} {ι : iS} {res : (Nat × iS) ⊕ (Int32 × iS)} (hM : m_X6_mock x1 ι = some res) : aMx l yX6_mock cX6_mock 2 (some .int) fx_X6_mock wx_X6_mock (fun ad => [.ref (ad 0), .int x1]) (aG ι) (xoi res) := by
  refine aMx.of (by decide) (fun _ => Nat.le_of_ble_eq_true rfl) ?_
  intro p e s m args below meth c D dA ad adV A ls C hw hl hout
  have C : aX p m c cX6_mock 2 s args aTs RX6 meth (some .int) := C
  have hx := C.1.1
  have hb := C.1.2.1
  have hml := C.1.2.2.1
  have hown := C.1.2.2.2.1
  have hts := C.1.2.2.2.2
  have hl : lv_has ls 2 [(0, .ref (ad 0)), (1, .int x1)] := hl
  unfold m_X6_mock at hM
  refine lv_aload_n hx hb dX6_mock_0 rfl (lv_at hl 0 rfl) ?_
  refine lv_iload_n hx hb dX6_mock_1 rfl (lv_at hl 1 rfl) ?_
  obtain ⟨r2, hr2, hM⟩ := h_b hM
  cases r2 with
  | inl r2t =>
    replace hM : some (Sum.inl r2t) = some res := hM
    cases h_e hM
    have q9 := c_X6_needPerson l hst hr2
    exact x_callT (σ' := aG r2t.2) (E := aEx r2t.1) (As := fun ad => [.int x1]) (rest := []) (ob := 0) C hw hout q9 k_X6_needPerson wM_X6_112 ⟨Nat.le_of_ble_eq_true rfl, Nat.le_of_ble_eq_true rfl⟩ rfl (by decide) rfl rfl rfl hl rfl (Nat.le_of_ble_eq_true rfl) dX6_mock_2
  | inr r2n =>
    replace hM : (Option.bind (m_X2_placeOf 2 x1 r2n) fun r11 => if r11.1 = (-1 : Int32) then Option.bind (m_X6_needState (0 : Int32) r11.2) fun r38 => match r38 with | .inl r38t => some (.inl r38t) | .inr r38n => Option.bind (m_X6_keepPast r38n) fun r42 => if aIn x1 16 = true then if aIn x1 16 = true then if aIn x1 16 = true then some (.inr ((gI (pI r42 8 x1.toNatClampNeg ((gI r42 8 x1.toNatClampNeg) + (1 : Int32))) 8 x1.toNatClampNeg), (pI r42 8 x1.toNatClampNeg ((gI r42 8 x1.toNatClampNeg) + (1 : Int32))))) else none else none else none else if aIn x1 16 = true then if (999 : Int32) ≤ (gI r11.2 8 x1.toNatClampNeg) then Option.bind (m_X6_needState (0 : Int32) r11.2) fun r38 => match r38 with | .inl r38t => some (.inl r38t) | .inr r38n => Option.bind (m_X6_keepPast r38n) fun r42 => if aIn x1 16 = true then if aIn x1 16 = true then if aIn x1 16 = true then some (.inr ((gI (pI r42 8 x1.toNatClampNeg ((gI r42 8 x1.toNatClampNeg) + (1 : Int32))) 8 x1.toNatClampNeg), (pI r42 8 x1.toNatClampNeg ((gI r42 8 x1.toNatClampNeg) + (1 : Int32))))) else none else none else none else Option.bind (m_X6_needState (1 : Int32) r11.2) fun r38 => match r38 with | .inl r38t => some (.inl r38t) | .inr r38n => Option.bind (m_X6_keepPast r38n) fun r42 => if aIn x1 16 = true then if aIn x1 16 = true then if aIn x1 16 = true then some (.inr ((gI (pI r42 8 x1.toNatClampNeg ((gI r42 8 x1.toNatClampNeg) + (1 : Int32))) 8 x1.toNatClampNeg), (pI r42 8 x1.toNatClampNeg ((gI r42 8 x1.toNatClampNeg) + (1 : Int32))))) else none else none else none else none) = some res := hM
    have q9 := c_X6_needPerson l hst hr2
    refine x_callN (σ' := aG r2n) (v := none) (As := fun ad => [.int x1]) (rest := []) (ob := 0) C hw q9 k_X6_needPerson wM_X6_112 ⟨Nat.le_of_ble_eq_true rfl, Nat.le_of_ble_eq_true rfl⟩ rfl (by decide) rfl rfl rfl hl rfl (Nat.le_of_ble_eq_true rfl) dX6_mock_2 ⟨Nat.zero_le _, Nat.zero_le _⟩ (fun H locs hw => ?_)
    refine lv_aload_n hx hb dX6_mock_5 rfl (lv_at hl 0 rfl) ?_
    refine lv_aload_n hx hb dX6_mock_6 rfl (lv_at hl 0 rfl) ?_
    refine a_getp (q := 2) (σ := aG r2n) (o := 0) (T := TX6) (N := 11) C wU_X6 hw rfl (by decide) rfl 2 (by decide) rfl wF_X6_20 (aG_P rfl rfl) dX6_mock_7 ?_
    refine lv_iload_n hx hb dX6_mock_10 rfl (lv_at hl 1 rfl) ?_
    obtain ⟨r11, hr11, hM⟩ := h_b hM
    refine a_callV (σ' := aG r11.2) (v := (some (.int r11.1))) (As := fun ad => [.int x1]) (rest := [.ref (ad 0)]) (o := 2) C hw (c_X2_placeOf l (lin2) hr11) k_X2_placeOf wM_X6_115 ⟨⟨rfl, rfl⟩, ⟨Nat.le_of_ble_eq_true rfl, Nat.le_of_ble_eq_true rfl⟩⟩ (aLin_k lin2).1 (by decide) rfl rfl rfl hl rfl (Nat.le_of_ble_eq_true rfl) dX6_mock_11 ⟨Nat.zero_le _, Nat.zero_le _⟩ (fun H locs hw => ?_)
    refine lv_iconst (v := (-1 : Int32)) hx hb dX6_mock_14 (by decide) ?_
    refine lv_icmp_eq (tgt := 37) hx hb dX6_mock_15 (by decide) (fun hc => ?_) (fun hc => ?_)
    · replace hM := h_t hc hM
      refine lv_iconst (v := (0 : Int32)) hx hb dX6_mock_37 (by decide) ?_
      obtain ⟨r38, hr38, hM⟩ := h_b hM
      cases r38 with
      | inl r38t =>
        replace hM : some (Sum.inl r38t) = some res := hM
        cases h_e hM
        have q9 := c_X6_needState l hst hr38
        exact x_callT (σ' := aG r38t.2) (E := aEx r38t.1) (As := fun ad => [.int (0 : Int32)]) (rest := []) (ob := 0) C hw hout q9 k_X6_needState wM_X6_122 ⟨Nat.le_of_ble_eq_true rfl, Nat.le_of_ble_eq_true rfl⟩ rfl (by decide) rfl rfl rfl hl rfl (Nat.le_of_ble_eq_true rfl) dX6_mock_38
      | inr r38n =>
        replace hM : (Option.bind (m_X6_keepPast r38n) fun r42 => if aIn x1 16 = true then if aIn x1 16 = true then if aIn x1 16 = true then some (.inr ((gI (pI r42 8 x1.toNatClampNeg ((gI r42 8 x1.toNatClampNeg) + (1 : Int32))) 8 x1.toNatClampNeg), (pI r42 8 x1.toNatClampNeg ((gI r42 8 x1.toNatClampNeg) + (1 : Int32))))) else none else none else none) = some res := hM
        have q9 := c_X6_needState l hst hr38
        refine x_callN (σ' := aG r38n) (v := none) (As := fun ad => [.int (0 : Int32)]) (rest := []) (ob := 0) C hw q9 k_X6_needState wM_X6_122 ⟨Nat.le_of_ble_eq_true rfl, Nat.le_of_ble_eq_true rfl⟩ rfl (by decide) rfl rfl rfl hl rfl (Nat.le_of_ble_eq_true rfl) dX6_mock_38 ⟨Nat.zero_le _, Nat.zero_le _⟩ (fun H locs hw => ?_)
        refine lv_aload_n hx hb dX6_mock_41 rfl (lv_at hl 0 rfl) ?_
        obtain ⟨r42, hr42, hM⟩ := h_b hM
        refine a_callV (σ' := aG r42) (v := none) (As := fun ad => []) (rest := []) (o := 0) C hw (c_X6_keepPast l hr42) k_X6_keepPast wM_X6_100 ⟨⟨rfl, rfl⟩, ⟨Nat.le_of_ble_eq_true rfl, Nat.le_of_ble_eq_true rfl⟩⟩ rfl (by decide) rfl rfl rfl hl rfl (Nat.le_of_ble_eq_true rfl) dX6_mock_42 ⟨Nat.zero_le _, Nat.zero_le _⟩ (fun H locs hw => ?_)
        refine lv_aload_n hx hb dX6_mock_45 rfl (lv_at hl 0 rfl) ?_
        refine a_getp (q := 2) (σ := aG r42) (o := 0) (T := TX6) (N := 11) C wU_X6 hw rfl (by decide) rfl 2 (by decide) rfl wF_X6_20 (aG_P rfl rfl) dX6_mock_46 ?_
        refine a_getp (q := 8) (σ := aG r42) (o := 2) (T := TX2) (N := 11) C wU_X2 hw (aLin_k lin2).1 (by decide) rfl 8 (by decide) rfl wF_X6_144 (aLin_p lin2 r42 5 (by decide)) dX6_mock_49 ?_
        refine lv_iload_n hx hb dX6_mock_52 rfl (lv_at hl 1 rfl) ?_
        refine lv_dup2_11 hx hb dX6_mock_53 rfl rfl ?_
        obtain ⟨hi, hM⟩ := h_i hM
        refine a_iald (σ := aG r42) (o := 8) C hw rfl hi rfl dX6_mock_54 ?_
        refine lv_iconst (v := (1 : Int32)) hx hb dX6_mock_55 (by decide) ?_
        refine lv_iadd hx hb dX6_mock_56 ?_
        obtain ⟨hi, hM⟩ := h_i hM
        refine a_iast (σ := aG r42) (o := 8) C hw rfl hi rfl dX6_mock_57 (fun H locs hw => ?_)
        have hw : aW D dA ad adV (aG (pI r42 8 x1.toNatClampNeg ((gI r42 8 x1.toNatClampNeg) + (1 : Int32)))) A s H locs := hw
        refine lv_aload_n hx hb dX6_mock_58 rfl (lv_at hl 0 rfl) ?_
        refine a_getp (q := 2) (σ := aG (pI r42 8 x1.toNatClampNeg ((gI r42 8 x1.toNatClampNeg) + (1 : Int32)))) (o := 0) (T := TX6) (N := 11) C wU_X6 hw rfl (by decide) rfl 2 (by decide) rfl wF_X6_20 (aG_P rfl rfl) dX6_mock_59 ?_
        refine a_getp (q := 8) (σ := aG (pI r42 8 x1.toNatClampNeg ((gI r42 8 x1.toNatClampNeg) + (1 : Int32)))) (o := 2) (T := TX2) (N := 11) C wU_X2 hw (aLin_k lin2).1 (by decide) rfl 8 (by decide) rfl wF_X6_144 (aLin_p lin2 (pI r42 8 x1.toNatClampNeg ((gI r42 8 x1.toNatClampNeg) + (1 : Int32))) 5 (by decide)) dX6_mock_62 ?_
        refine lv_iload_n hx hb dX6_mock_65 rfl (lv_at hl 1 rfl) ?_
        obtain ⟨hi, hM⟩ := h_i hM
        refine a_iald (σ := aG (pI r42 8 x1.toNatClampNeg ((gI r42 8 x1.toNatClampNeg) + (1 : Int32)))) (o := 8) C hw rfl hi rfl dX6_mock_66 ?_
        cases h_e hM
        exact x_iret C hw dX6_mock_67
    · replace hM := h_f hc hM
      refine lv_aload_n hx hb dX6_mock_18 rfl (lv_at hl 0 rfl) ?_
      refine a_getp (q := 2) (σ := aG r11.2) (o := 0) (T := TX6) (N := 11) C wU_X6 hw rfl (by decide) rfl 2 (by decide) rfl wF_X6_20 (aG_P rfl rfl) dX6_mock_19 ?_
      refine a_getp (q := 8) (σ := aG r11.2) (o := 2) (T := TX2) (N := 11) C wU_X2 hw (aLin_k lin2).1 (by decide) rfl 8 (by decide) rfl wF_X6_144 (aLin_p lin2 r11.2 5 (by decide)) dX6_mock_22 ?_
      refine lv_iload_n hx hb dX6_mock_25 rfl (lv_at hl 1 rfl) ?_
      obtain ⟨hi, hM⟩ := h_i hM
      refine a_iald (σ := aG r11.2) (o := 8) C hw rfl hi rfl dX6_mock_26 ?_
      refine lv_sipush (v := (999 : Int32)) hx hb dX6_mock_27 (by decide) ?_
      refine lv_icmp_ge (tgt := 37) hx hb dX6_mock_30 (by decide) (fun hc => ?_) (fun hc => ?_)
      · replace hM := h_t hc hM
        refine lv_iconst (v := (0 : Int32)) hx hb dX6_mock_37 (by decide) ?_
        obtain ⟨r38, hr38, hM⟩ := h_b hM
        cases r38 with
        | inl r38t =>
          replace hM : some (Sum.inl r38t) = some res := hM
          cases h_e hM
          have q9 := c_X6_needState l hst hr38
          exact x_callT (σ' := aG r38t.2) (E := aEx r38t.1) (As := fun ad => [.int (0 : Int32)]) (rest := []) (ob := 0) C hw hout q9 k_X6_needState wM_X6_122 ⟨Nat.le_of_ble_eq_true rfl, Nat.le_of_ble_eq_true rfl⟩ rfl (by decide) rfl rfl rfl hl rfl (Nat.le_of_ble_eq_true rfl) dX6_mock_38
        | inr r38n =>
          replace hM : (Option.bind (m_X6_keepPast r38n) fun r42 => if aIn x1 16 = true then if aIn x1 16 = true then if aIn x1 16 = true then some (.inr ((gI (pI r42 8 x1.toNatClampNeg ((gI r42 8 x1.toNatClampNeg) + (1 : Int32))) 8 x1.toNatClampNeg), (pI r42 8 x1.toNatClampNeg ((gI r42 8 x1.toNatClampNeg) + (1 : Int32))))) else none else none else none) = some res := hM
          have q9 := c_X6_needState l hst hr38
          refine x_callN (σ' := aG r38n) (v := none) (As := fun ad => [.int (0 : Int32)]) (rest := []) (ob := 0) C hw q9 k_X6_needState wM_X6_122 ⟨Nat.le_of_ble_eq_true rfl, Nat.le_of_ble_eq_true rfl⟩ rfl (by decide) rfl rfl rfl hl rfl (Nat.le_of_ble_eq_true rfl) dX6_mock_38 ⟨Nat.zero_le _, Nat.zero_le _⟩ (fun H locs hw => ?_)
          refine lv_aload_n hx hb dX6_mock_41 rfl (lv_at hl 0 rfl) ?_
          obtain ⟨r42, hr42, hM⟩ := h_b hM
          refine a_callV (σ' := aG r42) (v := none) (As := fun ad => []) (rest := []) (o := 0) C hw (c_X6_keepPast l hr42) k_X6_keepPast wM_X6_100 ⟨⟨rfl, rfl⟩, ⟨Nat.le_of_ble_eq_true rfl, Nat.le_of_ble_eq_true rfl⟩⟩ rfl (by decide) rfl rfl rfl hl rfl (Nat.le_of_ble_eq_true rfl) dX6_mock_42 ⟨Nat.zero_le _, Nat.zero_le _⟩ (fun H locs hw => ?_)
          refine lv_aload_n hx hb dX6_mock_45 rfl (lv_at hl 0 rfl) ?_
          refine a_getp (q := 2) (σ := aG r42) (o := 0) (T := TX6) (N := 11) C wU_X6 hw rfl (by decide) rfl 2 (by decide) rfl wF_X6_20 (aG_P rfl rfl) dX6_mock_46 ?_
          refine a_getp (q := 8) (σ := aG r42) (o := 2) (T := TX2) (N := 11) C wU_X2 hw (aLin_k lin2).1 (by decide) rfl 8 (by decide) rfl wF_X6_144 (aLin_p lin2 r42 5 (by decide)) dX6_mock_49 ?_
          refine lv_iload_n hx hb dX6_mock_52 rfl (lv_at hl 1 rfl) ?_
          refine lv_dup2_11 hx hb dX6_mock_53 rfl rfl ?_
          obtain ⟨hi, hM⟩ := h_i hM
          refine a_iald (σ := aG r42) (o := 8) C hw rfl hi rfl dX6_mock_54 ?_
          refine lv_iconst (v := (1 : Int32)) hx hb dX6_mock_55 (by decide) ?_
          refine lv_iadd hx hb dX6_mock_56 ?_
          obtain ⟨hi, hM⟩ := h_i hM
          refine a_iast (σ := aG r42) (o := 8) C hw rfl hi rfl dX6_mock_57 (fun H locs hw => ?_)
          have hw : aW D dA ad adV (aG (pI r42 8 x1.toNatClampNeg ((gI r42 8 x1.toNatClampNeg) + (1 : Int32)))) A s H locs := hw
          refine lv_aload_n hx hb dX6_mock_58 rfl (lv_at hl 0 rfl) ?_
          refine a_getp (q := 2) (σ := aG (pI r42 8 x1.toNatClampNeg ((gI r42 8 x1.toNatClampNeg) + (1 : Int32)))) (o := 0) (T := TX6) (N := 11) C wU_X6 hw rfl (by decide) rfl 2 (by decide) rfl wF_X6_20 (aG_P rfl rfl) dX6_mock_59 ?_
          refine a_getp (q := 8) (σ := aG (pI r42 8 x1.toNatClampNeg ((gI r42 8 x1.toNatClampNeg) + (1 : Int32)))) (o := 2) (T := TX2) (N := 11) C wU_X2 hw (aLin_k lin2).1 (by decide) rfl 8 (by decide) rfl wF_X6_144 (aLin_p lin2 (pI r42 8 x1.toNatClampNeg ((gI r42 8 x1.toNatClampNeg) + (1 : Int32))) 5 (by decide)) dX6_mock_62 ?_
          refine lv_iload_n hx hb dX6_mock_65 rfl (lv_at hl 1 rfl) ?_
          obtain ⟨hi, hM⟩ := h_i hM
          refine a_iald (σ := aG (pI r42 8 x1.toNatClampNeg ((gI r42 8 x1.toNatClampNeg) + (1 : Int32)))) (o := 8) C hw rfl hi rfl dX6_mock_66 ?_
          cases h_e hM
          exact x_iret C hw dX6_mock_67
      · replace hM := h_f hc hM
        refine lv_iconst (v := (1 : Int32)) hx hb dX6_mock_33 (by decide) ?_
        refine lv_goto (tgt := 38) hx hb dX6_mock_34 (by decide) ?_
        obtain ⟨r38, hr38, hM⟩ := h_b hM
        cases r38 with
        | inl r38t =>
          replace hM : some (Sum.inl r38t) = some res := hM
          cases h_e hM
          have q9 := c_X6_needState l hst hr38
          exact x_callT (σ' := aG r38t.2) (E := aEx r38t.1) (As := fun ad => [.int (1 : Int32)]) (rest := []) (ob := 0) C hw hout q9 k_X6_needState wM_X6_122 ⟨Nat.le_of_ble_eq_true rfl, Nat.le_of_ble_eq_true rfl⟩ rfl (by decide) rfl rfl rfl hl rfl (Nat.le_of_ble_eq_true rfl) dX6_mock_38
        | inr r38n =>
          replace hM : (Option.bind (m_X6_keepPast r38n) fun r42 => if aIn x1 16 = true then if aIn x1 16 = true then if aIn x1 16 = true then some (.inr ((gI (pI r42 8 x1.toNatClampNeg ((gI r42 8 x1.toNatClampNeg) + (1 : Int32))) 8 x1.toNatClampNeg), (pI r42 8 x1.toNatClampNeg ((gI r42 8 x1.toNatClampNeg) + (1 : Int32))))) else none else none else none) = some res := hM
          have q9 := c_X6_needState l hst hr38
          refine x_callN (σ' := aG r38n) (v := none) (As := fun ad => [.int (1 : Int32)]) (rest := []) (ob := 0) C hw q9 k_X6_needState wM_X6_122 ⟨Nat.le_of_ble_eq_true rfl, Nat.le_of_ble_eq_true rfl⟩ rfl (by decide) rfl rfl rfl hl rfl (Nat.le_of_ble_eq_true rfl) dX6_mock_38 ⟨Nat.zero_le _, Nat.zero_le _⟩ (fun H locs hw => ?_)
          refine lv_aload_n hx hb dX6_mock_41 rfl (lv_at hl 0 rfl) ?_
          obtain ⟨r42, hr42, hM⟩ := h_b hM
          refine a_callV (σ' := aG r42) (v := none) (As := fun ad => []) (rest := []) (o := 0) C hw (c_X6_keepPast l hr42) k_X6_keepPast wM_X6_100 ⟨⟨rfl, rfl⟩, ⟨Nat.le_of_ble_eq_true rfl, Nat.le_of_ble_eq_true rfl⟩⟩ rfl (by decide) rfl rfl rfl hl rfl (Nat.le_of_ble_eq_true rfl) dX6_mock_42 ⟨Nat.zero_le _, Nat.zero_le _⟩ (fun H locs hw => ?_)
          refine lv_aload_n hx hb dX6_mock_45 rfl (lv_at hl 0 rfl) ?_
          refine a_getp (q := 2) (σ := aG r42) (o := 0) (T := TX6) (N := 11) C wU_X6 hw rfl (by decide) rfl 2 (by decide) rfl wF_X6_20 (aG_P rfl rfl) dX6_mock_46 ?_
          refine a_getp (q := 8) (σ := aG r42) (o := 2) (T := TX2) (N := 11) C wU_X2 hw (aLin_k lin2).1 (by decide) rfl 8 (by decide) rfl wF_X6_144 (aLin_p lin2 r42 5 (by decide)) dX6_mock_49 ?_
          refine lv_iload_n hx hb dX6_mock_52 rfl (lv_at hl 1 rfl) ?_
          refine lv_dup2_11 hx hb dX6_mock_53 rfl rfl ?_
          obtain ⟨hi, hM⟩ := h_i hM
          refine a_iald (σ := aG r42) (o := 8) C hw rfl hi rfl dX6_mock_54 ?_
          refine lv_iconst (v := (1 : Int32)) hx hb dX6_mock_55 (by decide) ?_
          refine lv_iadd hx hb dX6_mock_56 ?_
          obtain ⟨hi, hM⟩ := h_i hM
          refine a_iast (σ := aG r42) (o := 8) C hw rfl hi rfl dX6_mock_57 (fun H locs hw => ?_)
          have hw : aW D dA ad adV (aG (pI r42 8 x1.toNatClampNeg ((gI r42 8 x1.toNatClampNeg) + (1 : Int32)))) A s H locs := hw
          refine lv_aload_n hx hb dX6_mock_58 rfl (lv_at hl 0 rfl) ?_
          refine a_getp (q := 2) (σ := aG (pI r42 8 x1.toNatClampNeg ((gI r42 8 x1.toNatClampNeg) + (1 : Int32)))) (o := 0) (T := TX6) (N := 11) C wU_X6 hw rfl (by decide) rfl 2 (by decide) rfl wF_X6_20 (aG_P rfl rfl) dX6_mock_59 ?_
          refine a_getp (q := 8) (σ := aG (pI r42 8 x1.toNatClampNeg ((gI r42 8 x1.toNatClampNeg) + (1 : Int32)))) (o := 2) (T := TX2) (N := 11) C wU_X2 hw (aLin_k lin2).1 (by decide) rfl 8 (by decide) rfl wF_X6_144 (aLin_p lin2 (pI r42 8 x1.toNatClampNeg ((gI r42 8 x1.toNatClampNeg) + (1 : Int32))) 5 (by decide)) dX6_mock_62 ?_
          refine lv_iload_n hx hb dX6_mock_65 rfl (lv_at hl 1 rfl) ?_
          obtain ⟨hi, hM⟩ := h_i hM
          refine a_iald (σ := aG (pI r42 8 x1.toNatClampNeg ((gI r42 8 x1.toNatClampNeg) + (1 : Int32)))) (o := 8) C hw rfl hi rfl dX6_mock_66 ?_
          cases h_e hM
          exact x_iret C hw dX6_mock_67
def fx_X6_told : Nat := 7
def wx_X6_told : Nat := 113
theorem k_X6_told : aCal RX6 yX6_told cX6_told 2 (some .int) 1 := ⟨wI_yX6_told, wE_yX6_told, wZ_X6, wC_yX6_told, by decide +kernel⟩
set_option maxHeartbeats 400000 in
set_option maxRecDepth 100000 in
theorem c_X6_told (l : Launch) (hst : l.stackTraces = false) {x1 : Int32} {ι : iS} {res : (Nat × iS) ⊕ (Int32 × iS)} (hM : m_X6_told x1 ι = some res) : aMx l yX6_told cX6_told 2 (some .int) fx_X6_told wx_X6_told (fun ad => [.ref (ad 0), .int x1]) (aG ι) (xoi res) := by
  refine aMx.of (by decide) (fun _ => Nat.le_of_ble_eq_true rfl) ?_
  intro p e s m args below meth c D dA ad adV A ls C hw hl hout
  have C : aX p m c cX6_told 2 s args aTs RX6 meth (some .int) := C
  have hx := C.1.1
  have hb := C.1.2.1
  have hml := C.1.2.2.1
  have hown := C.1.2.2.2.1
  have hts := C.1.2.2.2.2
  have hl : lv_has ls 2 [(0, .ref (ad 0)), (1, .int x1)] := hl
  unfold m_X6_told at hM
  refine lv_aload_n hx hb dX6_told_0 rfl (lv_at hl 0 rfl) ?_
  refine lv_iload_n hx hb dX6_told_1 rfl (lv_at hl 1 rfl) ?_
  refine lv_iconst (v := (0 : Int32)) hx hb dX6_told_2 (by decide) ?_
  refine lv_bipush (v := (9 : Int32)) hx hb dX6_told_3 (by decide) ?_
  obtain ⟨r5, hr5, hM⟩ := h_b hM
  cases r5 with
  | inl r5t =>
    replace hM : some (Sum.inl r5t) = some res := hM
    cases h_e hM
    have q9 := c_X6_needRange l hst hr5
    exact x_callT (σ' := aG r5t.2) (E := aEx r5t.1) (As := fun ad => [.int x1, .int (0 : Int32), .int (9 : Int32)]) (rest := []) (ob := 0) C hw hout q9 k_X6_needRange wM_X6_91 ⟨Nat.le_of_ble_eq_true rfl, Nat.le_of_ble_eq_true rfl⟩ rfl (by decide) rfl rfl rfl hl rfl (Nat.le_of_ble_eq_true rfl) dX6_told_5
  | inr r5n =>
    replace hM : (if x1 = 0 then some (.inr ((gI r5n 2 0), r5n)) else if x1 = 1 then some (.inr ((gI r5n 2 1), r5n)) else if x1 = 2 then some (.inr ((gI r5n 2 2), r5n)) else if x1 = 3 then if aIn (x1 - (3 : Int32)) 4 = true then some (.inr ((gI r5n 6 (x1 - (3 : Int32)).toNatClampNeg), r5n)) else none else if x1 = 4 then if aIn (x1 - (3 : Int32)) 4 = true then some (.inr ((gI r5n 6 (x1 - (3 : Int32)).toNatClampNeg), r5n)) else none else if x1 = 5 then if aIn (x1 - (3 : Int32)) 4 = true then some (.inr ((gI r5n 6 (x1 - (3 : Int32)).toNatClampNeg), r5n)) else none else if x1 = 6 then if aIn (x1 - (3 : Int32)) 4 = true then some (.inr ((gI r5n 6 (x1 - (3 : Int32)).toNatClampNeg), r5n)) else none else if x1 = 7 then Option.bind (m_X2_allMockPicks 2 r5n) fun r92 => some (.inr (r92.1, r92.2)) else if x1 = 8 then some (.inr ((gI r5n 0 1), r5n)) else if x1 = 9 then some (.inr ((gI r5n 0 5), r5n)) else if aIn (x1 - (3 : Int32)) 4 = true then some (.inr ((gI r5n 6 (x1 - (3 : Int32)).toNatClampNeg), r5n)) else none) = some res := hM
    have q9 := c_X6_needRange l hst hr5
    refine x_callN (σ' := aG r5n) (v := none) (As := fun ad => [.int x1, .int (0 : Int32), .int (9 : Int32)]) (rest := []) (ob := 0) C hw q9 k_X6_needRange wM_X6_91 ⟨Nat.le_of_ble_eq_true rfl, Nat.le_of_ble_eq_true rfl⟩ rfl (by decide) rfl rfl rfl hl rfl (Nat.le_of_ble_eq_true rfl) dX6_told_5 ⟨Nat.zero_le _, Nat.zero_le _⟩ (fun H locs hw => ?_)
    refine lv_iload_n hx hb dX6_told_8 rfl (lv_at hl 1 rfl) ?_
    -- switch
    by_cases hc0 : x1 = 0
    · replace hM := h_t hc0 hM
      refine lv_tableIn (tgt := 64) hx hb dX6_told_9 (by rw [hc0]; decide) (by rw [hc0]; decide) (off := 55) (by rw [hc0]; decide) (by decide) ?_
      refine lv_aload_n hx hb dX6_told_64 rfl (lv_at hl 0 rfl) ?_
      refine a_getp (q := 2) (σ := aG r5n) (o := 0) (T := TX6) (N := 11) C wU_X6 hw rfl (by decide) rfl 2 (by decide) rfl wF_X6_20 (aG_P rfl rfl) dX6_told_65 ?_
      refine a_geti (σ := aG r5n) (o := 2) (T := TX2) (N := 11) C wU_X2 hw (aLin_k lin2).1 (by decide) rfl 0 (by decide) rfl wF_X6_62 dX6_told_68 ?_
      cases h_e hM
      exact x_iret C hw dX6_told_71
    · replace hM := h_f hc0 hM
      by_cases hc1 : x1 = 1
      · replace hM := h_t hc1 hM
        refine lv_tableIn (tgt := 72) hx hb dX6_told_9 (by rw [hc1]; decide) (by rw [hc1]; decide) (off := 63) (by rw [hc1]; decide) (by decide) ?_
        refine lv_aload_n hx hb dX6_told_72 rfl (lv_at hl 0 rfl) ?_
        refine a_getp (q := 2) (σ := aG r5n) (o := 0) (T := TX6) (N := 11) C wU_X6 hw rfl (by decide) rfl 2 (by decide) rfl wF_X6_20 (aG_P rfl rfl) dX6_told_73 ?_
        refine a_geti (σ := aG r5n) (o := 2) (T := TX2) (N := 11) C wU_X2 hw (aLin_k lin2).1 (by decide) rfl 1 (by decide) rfl wF_X6_109 dX6_told_76 ?_
        cases h_e hM
        exact x_iret C hw dX6_told_79
      · replace hM := h_f hc1 hM
        by_cases hc2 : x1 = 2
        · replace hM := h_t hc2 hM
          refine lv_tableIn (tgt := 80) hx hb dX6_told_9 (by rw [hc2]; decide) (by rw [hc2]; decide) (off := 71) (by rw [hc2]; decide) (by decide) ?_
          refine lv_aload_n hx hb dX6_told_80 rfl (lv_at hl 0 rfl) ?_
          refine a_getp (q := 2) (σ := aG r5n) (o := 0) (T := TX6) (N := 11) C wU_X6 hw rfl (by decide) rfl 2 (by decide) rfl wF_X6_20 (aG_P rfl rfl) dX6_told_81 ?_
          refine a_geti (σ := aG r5n) (o := 2) (T := TX2) (N := 11) C wU_X2 hw (aLin_k lin2).1 (by decide) rfl 2 (by decide) rfl wF_X6_119 dX6_told_84 ?_
          cases h_e hM
          exact x_iret C hw dX6_told_87
        · replace hM := h_f hc2 hM
          by_cases hc3 : x1 = 3
          · replace hM := h_t hc3 hM
            refine lv_tableIn (tgt := 106) hx hb dX6_told_9 (by rw [hc3]; decide) (by rw [hc3]; decide) (off := 97) (by rw [hc3]; decide) (by decide) ?_
            refine lv_aload_n hx hb dX6_told_106 rfl (lv_at hl 0 rfl) ?_
            refine a_getp (q := 2) (σ := aG r5n) (o := 0) (T := TX6) (N := 11) C wU_X6 hw rfl (by decide) rfl 2 (by decide) rfl wF_X6_20 (aG_P rfl rfl) dX6_told_107 ?_
            refine a_getp (q := 6) (σ := aG r5n) (o := 2) (T := TX2) (N := 11) C wU_X2 hw (aLin_k lin2).1 (by decide) rfl 6 (by decide) rfl wF_X6_141 (aLin_p lin2 r5n 3 (by decide)) dX6_told_110 ?_
            refine lv_iload_n hx hb dX6_told_113 rfl (lv_at hl 1 rfl) ?_
            refine lv_iconst (v := (3 : Int32)) hx hb dX6_told_114 (by decide) ?_
            refine lv_isub hx hb dX6_told_115 ?_
            obtain ⟨hi, hM⟩ := h_i hM
            refine a_iald (σ := aG r5n) (o := 6) C hw rfl hi rfl dX6_told_116 ?_
            cases h_e hM
            exact x_iret C hw dX6_told_117
          · replace hM := h_f hc3 hM
            by_cases hc4 : x1 = 4
            · replace hM := h_t hc4 hM
              refine lv_tableIn (tgt := 106) hx hb dX6_told_9 (by rw [hc4]; decide) (by rw [hc4]; decide) (off := 97) (by rw [hc4]; decide) (by decide) ?_
              refine lv_aload_n hx hb dX6_told_106 rfl (lv_at hl 0 rfl) ?_
              refine a_getp (q := 2) (σ := aG r5n) (o := 0) (T := TX6) (N := 11) C wU_X6 hw rfl (by decide) rfl 2 (by decide) rfl wF_X6_20 (aG_P rfl rfl) dX6_told_107 ?_
              refine a_getp (q := 6) (σ := aG r5n) (o := 2) (T := TX2) (N := 11) C wU_X2 hw (aLin_k lin2).1 (by decide) rfl 6 (by decide) rfl wF_X6_141 (aLin_p lin2 r5n 3 (by decide)) dX6_told_110 ?_
              refine lv_iload_n hx hb dX6_told_113 rfl (lv_at hl 1 rfl) ?_
              refine lv_iconst (v := (3 : Int32)) hx hb dX6_told_114 (by decide) ?_
              refine lv_isub hx hb dX6_told_115 ?_
              obtain ⟨hi, hM⟩ := h_i hM
              refine a_iald (σ := aG r5n) (o := 6) C hw rfl hi rfl dX6_told_116 ?_
              cases h_e hM
              exact x_iret C hw dX6_told_117
            · replace hM := h_f hc4 hM
              by_cases hc5 : x1 = 5
              · replace hM := h_t hc5 hM
                refine lv_tableIn (tgt := 106) hx hb dX6_told_9 (by rw [hc5]; decide) (by rw [hc5]; decide) (off := 97) (by rw [hc5]; decide) (by decide) ?_
                refine lv_aload_n hx hb dX6_told_106 rfl (lv_at hl 0 rfl) ?_
                refine a_getp (q := 2) (σ := aG r5n) (o := 0) (T := TX6) (N := 11) C wU_X6 hw rfl (by decide) rfl 2 (by decide) rfl wF_X6_20 (aG_P rfl rfl) dX6_told_107 ?_
                refine a_getp (q := 6) (σ := aG r5n) (o := 2) (T := TX2) (N := 11) C wU_X2 hw (aLin_k lin2).1 (by decide) rfl 6 (by decide) rfl wF_X6_141 (aLin_p lin2 r5n 3 (by decide)) dX6_told_110 ?_
                refine lv_iload_n hx hb dX6_told_113 rfl (lv_at hl 1 rfl) ?_
                refine lv_iconst (v := (3 : Int32)) hx hb dX6_told_114 (by decide) ?_
                refine lv_isub hx hb dX6_told_115 ?_
                obtain ⟨hi, hM⟩ := h_i hM
                refine a_iald (σ := aG r5n) (o := 6) C hw rfl hi rfl dX6_told_116 ?_
                cases h_e hM
                exact x_iret C hw dX6_told_117
              · replace hM := h_f hc5 hM
                by_cases hc6 : x1 = 6
                · replace hM := h_t hc6 hM
                  refine lv_tableIn (tgt := 106) hx hb dX6_told_9 (by rw [hc6]; decide) (by rw [hc6]; decide) (off := 97) (by rw [hc6]; decide) (by decide) ?_
                  refine lv_aload_n hx hb dX6_told_106 rfl (lv_at hl 0 rfl) ?_
                  refine a_getp (q := 2) (σ := aG r5n) (o := 0) (T := TX6) (N := 11) C wU_X6 hw rfl (by decide) rfl 2 (by decide) rfl wF_X6_20 (aG_P rfl rfl) dX6_told_107 ?_
                  refine a_getp (q := 6) (σ := aG r5n) (o := 2) (T := TX2) (N := 11) C wU_X2 hw (aLin_k lin2).1 (by decide) rfl 6 (by decide) rfl wF_X6_141 (aLin_p lin2 r5n 3 (by decide)) dX6_told_110 ?_
                  refine lv_iload_n hx hb dX6_told_113 rfl (lv_at hl 1 rfl) ?_
                  refine lv_iconst (v := (3 : Int32)) hx hb dX6_told_114 (by decide) ?_
                  refine lv_isub hx hb dX6_told_115 ?_
                  obtain ⟨hi, hM⟩ := h_i hM
                  refine a_iald (σ := aG r5n) (o := 6) C hw rfl hi rfl dX6_told_116 ?_
                  cases h_e hM
                  exact x_iret C hw dX6_told_117
                · replace hM := h_f hc6 hM
                  by_cases hc7 : x1 = 7
                  · replace hM := h_t hc7 hM
                    refine lv_tableIn (tgt := 88) hx hb dX6_told_9 (by rw [hc7]; decide) (by rw [hc7]; decide) (off := 79) (by rw [hc7]; decide) (by decide) ?_
                    refine lv_aload_n hx hb dX6_told_88 rfl (lv_at hl 0 rfl) ?_
                    refine a_getp (q := 2) (σ := aG r5n) (o := 0) (T := TX6) (N := 11) C wU_X6 hw rfl (by decide) rfl 2 (by decide) rfl wF_X6_20 (aG_P rfl rfl) dX6_told_89 ?_
                    obtain ⟨r92, hr92, hM⟩ := h_b hM
                    refine a_callV (σ' := aG r92.2) (v := (some (.int r92.1))) (As := fun ad => []) (rest := []) (o := 2) C hw (c_X2_allMockPicks l (lin2) hr92) k_X2_allMockPicks wM_X6_147 ⟨⟨rfl, rfl⟩, ⟨Nat.le_of_ble_eq_true rfl, Nat.le_of_ble_eq_true rfl⟩⟩ (aLin_k lin2).1 (by decide) rfl rfl rfl hl rfl (Nat.le_of_ble_eq_true rfl) dX6_told_92 ⟨Nat.zero_le _, Nat.zero_le _⟩ (fun H locs hw => ?_)
                    cases h_e hM
                    exact x_iret C hw dX6_told_95
                  · replace hM := h_f hc7 hM
                    by_cases hc8 : x1 = 8
                    · replace hM := h_t hc8 hM
                      refine lv_tableIn (tgt := 96) hx hb dX6_told_9 (by rw [hc8]; decide) (by rw [hc8]; decide) (off := 87) (by rw [hc8]; decide) (by decide) ?_
                      refine lv_aload_n hx hb dX6_told_96 rfl (lv_at hl 0 rfl) ?_
                      refine a_geti (σ := aG r5n) (o := 0) (T := TX6) (N := 11) C wU_X6 hw rfl (by decide) rfl 1 (by decide) rfl wF_X6_13 dX6_told_97 ?_
                      cases h_e hM
                      exact x_iret C hw dX6_told_100
                    · replace hM := h_f hc8 hM
                      by_cases hc9 : x1 = 9
                      · replace hM := h_t hc9 hM
                        refine lv_tableIn (tgt := 101) hx hb dX6_told_9 (by rw [hc9]; decide) (by rw [hc9]; decide) (off := 92) (by rw [hc9]; decide) (by decide) ?_
                        refine lv_aload_n hx hb dX6_told_101 rfl (lv_at hl 0 rfl) ?_
                        refine a_geti (σ := aG r5n) (o := 0) (T := TX6) (N := 11) C wU_X6 hw rfl (by decide) rfl 5 (by decide) rfl wF_X6_35 dX6_told_102 ?_
                        cases h_e hM
                        exact x_iret C hw dX6_told_105
                      · replace hM := h_f hc9 hM
                        refine lv_tableOut (tgt := 106) hx hb dX6_told_9 (sw_out (lo := 0) (n := 10) (by decide) (by intro k hk; rcases (show k = 0 ∨ k = 1 ∨ k = 2 ∨ k = 3 ∨ k = 4 ∨ k = 5 ∨ k = 6 ∨ k = 7 ∨ k = 8 ∨ k = 9 by omega) with rfl | rfl | rfl | rfl | rfl | rfl | rfl | rfl | rfl | rfl <;> assumption)) (by decide) ?_
                        refine lv_aload_n hx hb dX6_told_106 rfl (lv_at hl 0 rfl) ?_
                        refine a_getp (q := 2) (σ := aG r5n) (o := 0) (T := TX6) (N := 11) C wU_X6 hw rfl (by decide) rfl 2 (by decide) rfl wF_X6_20 (aG_P rfl rfl) dX6_told_107 ?_
                        refine a_getp (q := 6) (σ := aG r5n) (o := 2) (T := TX2) (N := 11) C wU_X2 hw (aLin_k lin2).1 (by decide) rfl 6 (by decide) rfl wF_X6_141 (aLin_p lin2 r5n 3 (by decide)) dX6_told_110 ?_
                        refine lv_iload_n hx hb dX6_told_113 rfl (lv_at hl 1 rfl) ?_
                        refine lv_iconst (v := (3 : Int32)) hx hb dX6_told_114 (by decide) ?_
                        refine lv_isub hx hb dX6_told_115 ?_
                        obtain ⟨hi, hM⟩ := h_i hM
                        refine a_iald (σ := aG r5n) (o := 6) C hw rfl hi rfl dX6_told_116 ?_
                        cases h_e hM
                        exact x_iret C hw dX6_told_117
def fx_X6_trait : Nat := 7
def wx_X6_trait : Nat := 113
theorem k_X6_trait : aCal RX6 yX6_trait cX6_trait 3 (some .int) 2 := ⟨wI_yX6_trait, wE_yX6_trait, wZ_X6, wC_yX6_trait, by decide +kernel⟩
set_option maxHeartbeats 400000 in
set_option maxRecDepth 100000 in
theorem c_X6_trait (l : Launch) (hst : l.stackTraces = false) {x1 : Int32} {x2 : Int32} {ι : iS} {res : (Nat × iS) ⊕ (Int32 × iS)} (hM : m_X6_trait x1 x2 ι = some res) : aMx l yX6_trait cX6_trait 3 (some .int) fx_X6_trait wx_X6_trait (fun ad => [.ref (ad 0), .int x1, .int x2]) (aG ι) (xoi res) := by
  refine aMx.of (by decide) (fun _ => Nat.le_of_ble_eq_true rfl) ?_
  intro p e s m args below meth c D dA ad adV A ls C hw hl hout
  have C : aX p m c cX6_trait 3 s args aTs RX6 meth (some .int) := C
  have hx := C.1.1
  have hb := C.1.2.1
  have hml := C.1.2.2.1
  have hown := C.1.2.2.2.1
  have hts := C.1.2.2.2.2
  have hl : lv_has ls 3 [(0, .ref (ad 0)), (1, .int x1), (2, .int x2)] := hl
  unfold m_X6_trait at hM
  refine lv_aload_n hx hb dX6_trait_0 rfl (lv_at hl 0 rfl) ?_
  refine lv_iload_n hx hb dX6_trait_1 rfl (lv_at hl 1 rfl) ?_
  obtain ⟨r2, hr2, hM⟩ := h_b hM
  cases r2 with
  | inl r2t =>
    replace hM : some (Sum.inl r2t) = some res := hM
    cases h_e hM
    have q9 := c_X6_needTrait l hst hr2
    exact x_callT (σ' := aG r2t.2) (E := aEx r2t.1) (As := fun ad => [.int x1]) (rest := []) (ob := 0) C hw hout q9 k_X6_needTrait wM_X6_151 ⟨Nat.le_of_ble_eq_true rfl, Nat.le_of_ble_eq_true rfl⟩ rfl (by decide) rfl rfl rfl hl rfl (Nat.le_of_ble_eq_true rfl) dX6_trait_2
  | inr r2n =>
    replace hM : (Option.bind (m_X6_needRange x2 (0 : Int32) (1 : Int32) r2n) fun r9 => match r9 with | .inl r9t => some (.inl r9t) | .inr r9n => if x2 = 0 then if aIn x1 5 = true then some (.inr ((gI r9n 4 x1.toNatClampNeg), r9n)) else none else if aIn x1 5 = true then some (.inr ((gI r9n 5 x1.toNatClampNeg), r9n)) else none) = some res := hM
    have q9 := c_X6_needTrait l hst hr2
    refine x_callN (σ' := aG r2n) (v := none) (As := fun ad => [.int x1]) (rest := []) (ob := 0) C hw q9 k_X6_needTrait wM_X6_151 ⟨Nat.le_of_ble_eq_true rfl, Nat.le_of_ble_eq_true rfl⟩ rfl (by decide) rfl rfl rfl hl rfl (Nat.le_of_ble_eq_true rfl) dX6_trait_2 ⟨Nat.zero_le _, Nat.zero_le _⟩ (fun H locs hw => ?_)
    refine lv_aload_n hx hb dX6_trait_5 rfl (lv_at hl 0 rfl) ?_
    refine lv_iload_n hx hb dX6_trait_6 rfl (lv_at hl 2 rfl) ?_
    refine lv_iconst (v := (0 : Int32)) hx hb dX6_trait_7 (by decide) ?_
    refine lv_iconst (v := (1 : Int32)) hx hb dX6_trait_8 (by decide) ?_
    obtain ⟨r9, hr9, hM⟩ := h_b hM
    cases r9 with
    | inl r9t =>
      replace hM : some (Sum.inl r9t) = some res := hM
      cases h_e hM
      have q9 := c_X6_needRange l hst hr9
      exact x_callT (σ' := aG r9t.2) (E := aEx r9t.1) (As := fun ad => [.int x2, .int (0 : Int32), .int (1 : Int32)]) (rest := []) (ob := 0) C hw hout q9 k_X6_needRange wM_X6_91 ⟨Nat.le_of_ble_eq_true rfl, Nat.le_of_ble_eq_true rfl⟩ rfl (by decide) rfl rfl rfl hl rfl (Nat.le_of_ble_eq_true rfl) dX6_trait_9
    | inr r9n =>
      replace hM : (if x2 = 0 then if aIn x1 5 = true then some (.inr ((gI r9n 4 x1.toNatClampNeg), r9n)) else none else if aIn x1 5 = true then some (.inr ((gI r9n 5 x1.toNatClampNeg), r9n)) else none) = some res := hM
      have q9 := c_X6_needRange l hst hr9
      refine x_callN (σ' := aG r9n) (v := none) (As := fun ad => [.int x2, .int (0 : Int32), .int (1 : Int32)]) (rest := []) (ob := 0) C hw q9 k_X6_needRange wM_X6_91 ⟨Nat.le_of_ble_eq_true rfl, Nat.le_of_ble_eq_true rfl⟩ rfl (by decide) rfl rfl rfl hl rfl (Nat.le_of_ble_eq_true rfl) dX6_trait_9 ⟨Nat.zero_le _, Nat.zero_le _⟩ (fun H locs hw => ?_)
      refine lv_iload_n hx hb dX6_trait_12 rfl (lv_at hl 2 rfl) ?_
      refine lv_if_ne (tgt := 28) hx hb dX6_trait_13 (by decide) (fun hc => ?_) (fun hc => ?_)
      · replace hM := h_f hc hM
        refine lv_aload_n hx hb dX6_trait_28 rfl (lv_at hl 0 rfl) ?_
        refine a_getp (q := 2) (σ := aG r9n) (o := 0) (T := TX6) (N := 11) C wU_X6 hw rfl (by decide) rfl 2 (by decide) rfl wF_X6_20 (aG_P rfl rfl) dX6_trait_29 ?_
        refine a_getp (q := 5) (σ := aG r9n) (o := 2) (T := TX2) (N := 11) C wU_X2 hw (aLin_k lin2).1 (by decide) rfl 5 (by decide) rfl wF_X6_71 (aLin_p lin2 r9n 2 (by decide)) dX6_trait_32 ?_
        refine lv_iload_n hx hb dX6_trait_35 rfl (lv_at hl 1 rfl) ?_
        obtain ⟨hi, hM⟩ := h_i hM
        refine a_iald (σ := aG r9n) (o := 5) C hw rfl hi rfl dX6_trait_36 ?_
        cases h_e hM
        exact x_iret C hw dX6_trait_37
      · replace hM := h_t hc hM
        refine lv_aload_n hx hb dX6_trait_16 rfl (lv_at hl 0 rfl) ?_
        refine a_getp (q := 2) (σ := aG r9n) (o := 0) (T := TX6) (N := 11) C wU_X6 hw rfl (by decide) rfl 2 (by decide) rfl wF_X6_20 (aG_P rfl rfl) dX6_trait_17 ?_
        refine a_getp (q := 4) (σ := aG r9n) (o := 2) (T := TX2) (N := 11) C wU_X2 hw (aLin_k lin2).1 (by decide) rfl 4 (by decide) rfl wF_X6_68 (aLin_p lin2 r9n 1 (by decide)) dX6_trait_20 ?_
        refine lv_iload_n hx hb dX6_trait_23 rfl (lv_at hl 1 rfl) ?_
        obtain ⟨hi, hM⟩ := h_i hM
        refine a_iald (σ := aG r9n) (o := 4) C hw rfl hi rfl dX6_trait_24 ?_
        refine lv_goto (tgt := 37) hx hb dX6_trait_25 (by decide) ?_
        cases h_e hM
        exact x_iret C hw dX6_trait_37
def fx_X6_value : Nat := 7
def wx_X6_value : Nat := 111
theorem k_X6_value : aCal RX6 yX6_value cX6_value 3 (some .int) 2 := ⟨wI_yX6_value, wE_yX6_value, wZ_X6, wC_yX6_value, by decide +kernel⟩
set_option maxHeartbeats 400000 in
set_option maxRecDepth 100000 in
theorem c_X6_value (l : Launch) (hst : l.stackTraces = false) {x1 : Int32} {x2 : Int32} {ι : iS} {res : (Nat × iS) ⊕ (Int32 × iS)} (hM : m_X6_value x1 x2 ι = some res) : aMx l yX6_value cX6_value 3 (some .int) fx_X6_value wx_X6_value (fun ad => [.ref (ad 0), .int x1, .int x2]) (aG ι) (xoi res) := by
  refine aMx.of (by decide) (fun _ => Nat.le_of_ble_eq_true rfl) ?_
  intro p e s m args below meth c D dA ad adV A ls C hw hl hout
  have C : aX p m c cX6_value 3 s args aTs RX6 meth (some .int) := C
  have hx := C.1.1
  have hb := C.1.2.1
  have hml := C.1.2.2.1
  have hown := C.1.2.2.2.1
  have hts := C.1.2.2.2.2
  have hl : lv_has ls 3 [(0, .ref (ad 0)), (1, .int x1), (2, .int x2)] := hl
  unfold m_X6_value at hM
  refine lv_aload_n hx hb dX6_value_0 rfl (lv_at hl 0 rfl) ?_
  refine lv_iload_n hx hb dX6_value_1 rfl (lv_at hl 1 rfl) ?_
  obtain ⟨r2, hr2, hM⟩ := h_b hM
  cases r2 with
  | inl r2t =>
    replace hM : some (Sum.inl r2t) = some res := hM
    cases h_e hM
    have q9 := c_X6_needPerson l hst hr2
    exact x_callT (σ' := aG r2t.2) (E := aEx r2t.1) (As := fun ad => [.int x1]) (rest := []) (ob := 0) C hw hout q9 k_X6_needPerson wM_X6_112 ⟨Nat.le_of_ble_eq_true rfl, Nat.le_of_ble_eq_true rfl⟩ rfl (by decide) rfl rfl rfl hl rfl (Nat.le_of_ble_eq_true rfl) dX6_value_2
  | inr r2n =>
    replace hM : (Option.bind (m_X6_needTrait x2 r2n) fun r7 => match r7 with | .inl r7t => some (.inl r7t) | .inr r7n => Option.bind (m_X2_valueOf 2 x1 x2 r7n) fun r16 => some (.inr (r16.1, r16.2))) = some res := hM
    have q9 := c_X6_needPerson l hst hr2
    refine x_callN (σ' := aG r2n) (v := none) (As := fun ad => [.int x1]) (rest := []) (ob := 0) C hw q9 k_X6_needPerson wM_X6_112 ⟨Nat.le_of_ble_eq_true rfl, Nat.le_of_ble_eq_true rfl⟩ rfl (by decide) rfl rfl rfl hl rfl (Nat.le_of_ble_eq_true rfl) dX6_value_2 ⟨Nat.zero_le _, Nat.zero_le _⟩ (fun H locs hw => ?_)
    refine lv_aload_n hx hb dX6_value_5 rfl (lv_at hl 0 rfl) ?_
    refine lv_iload_n hx hb dX6_value_6 rfl (lv_at hl 2 rfl) ?_
    obtain ⟨r7, hr7, hM⟩ := h_b hM
    cases r7 with
    | inl r7t =>
      replace hM : some (Sum.inl r7t) = some res := hM
      cases h_e hM
      have q9 := c_X6_needTrait l hst hr7
      exact x_callT (σ' := aG r7t.2) (E := aEx r7t.1) (As := fun ad => [.int x2]) (rest := []) (ob := 0) C hw hout q9 k_X6_needTrait wM_X6_151 ⟨Nat.le_of_ble_eq_true rfl, Nat.le_of_ble_eq_true rfl⟩ rfl (by decide) rfl rfl rfl hl rfl (Nat.le_of_ble_eq_true rfl) dX6_value_7
    | inr r7n =>
      replace hM : (Option.bind (m_X2_valueOf 2 x1 x2 r7n) fun r16 => some (.inr (r16.1, r16.2))) = some res := hM
      have q9 := c_X6_needTrait l hst hr7
      refine x_callN (σ' := aG r7n) (v := none) (As := fun ad => [.int x2]) (rest := []) (ob := 0) C hw q9 k_X6_needTrait wM_X6_151 ⟨Nat.le_of_ble_eq_true rfl, Nat.le_of_ble_eq_true rfl⟩ rfl (by decide) rfl rfl rfl hl rfl (Nat.le_of_ble_eq_true rfl) dX6_value_7 ⟨Nat.zero_le _, Nat.zero_le _⟩ (fun H locs hw => ?_)
      refine lv_aload_n hx hb dX6_value_10 rfl (lv_at hl 0 rfl) ?_
      refine a_getp (q := 2) (σ := aG r7n) (o := 0) (T := TX6) (N := 11) C wU_X6 hw rfl (by decide) rfl 2 (by decide) rfl wF_X6_20 (aG_P rfl rfl) dX6_value_11 ?_
      refine lv_iload_n hx hb dX6_value_14 rfl (lv_at hl 1 rfl) ?_
      refine lv_iload_n hx hb dX6_value_15 rfl (lv_at hl 2 rfl) ?_
      obtain ⟨r16, hr16, hM⟩ := h_b hM
      refine a_callV (σ' := aG r16.2) (v := (some (.int r16.1))) (As := fun ad => [.int x1, .int x2]) (rest := []) (o := 2) C hw (c_X2_valueOf l (lin2) hr16) k_X2_valueOf wM_X6_154 ⟨⟨rfl, rfl⟩, ⟨Nat.le_of_ble_eq_true rfl, Nat.le_of_ble_eq_true rfl⟩⟩ (aLin_k lin2).1 (by decide) rfl rfl rfl hl rfl (Nat.le_of_ble_eq_true rfl) dX6_value_16 ⟨Nat.zero_le _, Nat.zero_le _⟩ (fun H locs hw => ?_)
      cases h_e hM
      exact x_iret C hw dX6_value_19
def fx_X6_shown : Nat := 7
def wx_X6_shown : Nat := 111
theorem k_X6_shown : aCal RX6 yX6_shown cX6_shown 2 (some .int) 1 := ⟨wI_yX6_shown, wE_yX6_shown, wZ_X6, wC_yX6_shown, by decide +kernel⟩
set_option maxHeartbeats 400000 in
set_option maxRecDepth 100000 in
theorem c_X6_shown (l : Launch) (hst : l.stackTraces = false) {x1 : Int32} {ι : iS} {res : (Nat × iS) ⊕ (Int32 × iS)} (hM : m_X6_shown x1 ι = some res) : aMx l yX6_shown cX6_shown 2 (some .int) fx_X6_shown wx_X6_shown (fun ad => [.ref (ad 0), .int x1]) (aG ι) (xoi res) := by
  refine aMx.of (by decide) (fun _ => Nat.le_of_ble_eq_true rfl) ?_
  intro p e s m args below meth c D dA ad adV A ls C hw hl hout
  have C : aX p m c cX6_shown 2 s args aTs RX6 meth (some .int) := C
  have hx := C.1.1
  have hb := C.1.2.1
  have hml := C.1.2.2.1
  have hown := C.1.2.2.2.1
  have hts := C.1.2.2.2.2
  have hl : lv_has ls 2 [(0, .ref (ad 0)), (1, .int x1)] := hl
  unfold m_X6_shown at hM
  refine lv_aload_n hx hb dX6_shown_0 rfl (lv_at hl 0 rfl) ?_
  refine lv_iload_n hx hb dX6_shown_1 rfl (lv_at hl 1 rfl) ?_
  obtain ⟨r2, hr2, hM⟩ := h_b hM
  cases r2 with
  | inl r2t =>
    replace hM : some (Sum.inl r2t) = some res := hM
    cases h_e hM
    have q9 := c_X6_needPlace l hst hr2
    exact x_callT (σ' := aG r2t.2) (E := aEx r2t.1) (As := fun ad => [.int x1]) (rest := []) (ob := 0) C hw hout q9 k_X6_needPlace wM_X6_129 ⟨Nat.le_of_ble_eq_true rfl, Nat.le_of_ble_eq_true rfl⟩ rfl (by decide) rfl rfl rfl hl rfl (Nat.le_of_ble_eq_true rfl) dX6_shown_2
  | inr r2n =>
    replace hM : (if aIn x1 8 = true then some (.inr ((gI r2n 7 x1.toNatClampNeg), r2n)) else none) = some res := hM
    have q9 := c_X6_needPlace l hst hr2
    refine x_callN (σ' := aG r2n) (v := none) (As := fun ad => [.int x1]) (rest := []) (ob := 0) C hw q9 k_X6_needPlace wM_X6_129 ⟨Nat.le_of_ble_eq_true rfl, Nat.le_of_ble_eq_true rfl⟩ rfl (by decide) rfl rfl rfl hl rfl (Nat.le_of_ble_eq_true rfl) dX6_shown_2 ⟨Nat.zero_le _, Nat.zero_le _⟩ (fun H locs hw => ?_)
    refine lv_aload_n hx hb dX6_shown_5 rfl (lv_at hl 0 rfl) ?_
    refine a_getp (q := 2) (σ := aG r2n) (o := 0) (T := TX6) (N := 11) C wU_X6 hw rfl (by decide) rfl 2 (by decide) rfl wF_X6_20 (aG_P rfl rfl) dX6_shown_6 ?_
    refine a_getp (q := 7) (σ := aG r2n) (o := 2) (T := TX2) (N := 11) C wU_X2 hw (aLin_k lin2).1 (by decide) rfl 7 (by decide) rfl wF_X6_158 (aLin_p lin2 r2n 4 (by decide)) dX6_shown_9 ?_
    refine lv_iload_n hx hb dX6_shown_12 rfl (lv_at hl 1 rfl) ?_
    obtain ⟨hi, hM⟩ := h_i hM
    refine a_iald (σ := aG r2n) (o := 7) C hw rfl hi rfl dX6_shown_13 ?_
    cases h_e hM
    exact x_iret C hw dX6_shown_14
def fx_X6_match : Nat := 7
def wx_X6_match : Nat := 111
theorem k_X6_match : aCal RX6 yX6_match cX6_match 3 (some .int) 2 := ⟨wI_yX6_match, wE_yX6_match, wZ_X6, wC_yX6_match, by decide +kernel⟩
set_option maxHeartbeats 400000 in
set_option maxRecDepth 100000 in
theorem c_X6_match (l : Launch) (hst : l.stackTraces = false) {x1 : Int32} {x2 : Int32} {ι : iS} {res : (Nat × iS) ⊕ (Int32 × iS)} (hM : m_X6_match x1 x2 ι = some res) : aMx l yX6_match cX6_match 3 (some .int) fx_X6_match wx_X6_match (fun ad => [.ref (ad 0), .int x1, .int x2]) (aG ι) (xoi res) := by
  refine aMx.of (by decide) (fun _ => Nat.le_of_ble_eq_true rfl) ?_
  intro p e s m args below meth c D dA ad adV A ls C hw hl hout
  have C : aX p m c cX6_match 3 s args aTs RX6 meth (some .int) := C
  have hx := C.1.1
  have hb := C.1.2.1
  have hml := C.1.2.2.1
  have hown := C.1.2.2.2.1
  have hts := C.1.2.2.2.2
  have hl : lv_has ls 3 [(0, .ref (ad 0)), (1, .int x1), (2, .int x2)] := hl
  unfold m_X6_match at hM
  refine lv_aload_n hx hb dX6_match_0 rfl (lv_at hl 0 rfl) ?_
  refine lv_iload_n hx hb dX6_match_1 rfl (lv_at hl 1 rfl) ?_
  obtain ⟨r2, hr2, hM⟩ := h_b hM
  cases r2 with
  | inl r2t =>
    replace hM : some (Sum.inl r2t) = some res := hM
    cases h_e hM
    have q9 := c_X6_needPerson l hst hr2
    exact x_callT (σ' := aG r2t.2) (E := aEx r2t.1) (As := fun ad => [.int x1]) (rest := []) (ob := 0) C hw hout q9 k_X6_needPerson wM_X6_112 ⟨Nat.le_of_ble_eq_true rfl, Nat.le_of_ble_eq_true rfl⟩ rfl (by decide) rfl rfl rfl hl rfl (Nat.le_of_ble_eq_true rfl) dX6_match_2
  | inr r2n =>
    replace hM : (Option.bind (m_X2_matchOf 2 x1 x2 r2n) fun r11 => some (.inr (r11.1, r11.2))) = some res := hM
    have q9 := c_X6_needPerson l hst hr2
    refine x_callN (σ' := aG r2n) (v := none) (As := fun ad => [.int x1]) (rest := []) (ob := 0) C hw q9 k_X6_needPerson wM_X6_112 ⟨Nat.le_of_ble_eq_true rfl, Nat.le_of_ble_eq_true rfl⟩ rfl (by decide) rfl rfl rfl hl rfl (Nat.le_of_ble_eq_true rfl) dX6_match_2 ⟨Nat.zero_le _, Nat.zero_le _⟩ (fun H locs hw => ?_)
    refine lv_aload_n hx hb dX6_match_5 rfl (lv_at hl 0 rfl) ?_
    refine a_getp (q := 2) (σ := aG r2n) (o := 0) (T := TX6) (N := 11) C wU_X6 hw rfl (by decide) rfl 2 (by decide) rfl wF_X6_20 (aG_P rfl rfl) dX6_match_6 ?_
    refine lv_iload_n hx hb dX6_match_9 rfl (lv_at hl 1 rfl) ?_
    refine lv_iload_n hx hb dX6_match_10 rfl (lv_at hl 2 rfl) ?_
    obtain ⟨r11, hr11, hM⟩ := h_b hM
    refine a_callV (σ' := aG r11.2) (v := (some (.int r11.1))) (As := fun ad => [.int x1, .int x2]) (rest := []) (o := 2) C hw (c_X2_matchOf l (lin2) hr11) k_X2_matchOf wM_X6_161 ⟨⟨rfl, rfl⟩, ⟨Nat.le_of_ble_eq_true rfl, Nat.le_of_ble_eq_true rfl⟩⟩ (aLin_k lin2).1 (by decide) rfl rfl rfl hl rfl (Nat.le_of_ble_eq_true rfl) dX6_match_11 ⟨Nat.zero_le _, Nat.zero_le _⟩ (fun H locs hw => ?_)
    cases h_e hM
    exact x_iret C hw dX6_match_14
def fx_X6_mocks : Nat := 7
def wx_X6_mocks : Nat := 111
theorem k_X6_mocks : aCal RX6 yX6_mocks cX6_mocks 2 (some .int) 1 := ⟨wI_yX6_mocks, wE_yX6_mocks, wZ_X6, wC_yX6_mocks, by decide +kernel⟩
set_option maxHeartbeats 400000 in
set_option maxRecDepth 100000 in
theorem c_X6_mocks (l : Launch) (hst : l.stackTraces = false) {x1 : Int32} {ι : iS} {res : (Nat × iS) ⊕ (Int32 × iS)} (hM : m_X6_mocks x1 ι = some res) : aMx l yX6_mocks cX6_mocks 2 (some .int) fx_X6_mocks wx_X6_mocks (fun ad => [.ref (ad 0), .int x1]) (aG ι) (xoi res) := by
  refine aMx.of (by decide) (fun _ => Nat.le_of_ble_eq_true rfl) ?_
  intro p e s m args below meth c D dA ad adV A ls C hw hl hout
  have C : aX p m c cX6_mocks 2 s args aTs RX6 meth (some .int) := C
  have hx := C.1.1
  have hb := C.1.2.1
  have hml := C.1.2.2.1
  have hown := C.1.2.2.2.1
  have hts := C.1.2.2.2.2
  have hl : lv_has ls 2 [(0, .ref (ad 0)), (1, .int x1)] := hl
  unfold m_X6_mocks at hM
  refine lv_aload_n hx hb dX6_mocks_0 rfl (lv_at hl 0 rfl) ?_
  refine lv_iload_n hx hb dX6_mocks_1 rfl (lv_at hl 1 rfl) ?_
  obtain ⟨r2, hr2, hM⟩ := h_b hM
  cases r2 with
  | inl r2t =>
    replace hM : some (Sum.inl r2t) = some res := hM
    cases h_e hM
    have q9 := c_X6_needPerson l hst hr2
    exact x_callT (σ' := aG r2t.2) (E := aEx r2t.1) (As := fun ad => [.int x1]) (rest := []) (ob := 0) C hw hout q9 k_X6_needPerson wM_X6_112 ⟨Nat.le_of_ble_eq_true rfl, Nat.le_of_ble_eq_true rfl⟩ rfl (by decide) rfl rfl rfl hl rfl (Nat.le_of_ble_eq_true rfl) dX6_mocks_2
  | inr r2n =>
    replace hM : (if aIn x1 16 = true then some (.inr ((gI r2n 8 x1.toNatClampNeg), r2n)) else none) = some res := hM
    have q9 := c_X6_needPerson l hst hr2
    refine x_callN (σ' := aG r2n) (v := none) (As := fun ad => [.int x1]) (rest := []) (ob := 0) C hw q9 k_X6_needPerson wM_X6_112 ⟨Nat.le_of_ble_eq_true rfl, Nat.le_of_ble_eq_true rfl⟩ rfl (by decide) rfl rfl rfl hl rfl (Nat.le_of_ble_eq_true rfl) dX6_mocks_2 ⟨Nat.zero_le _, Nat.zero_le _⟩ (fun H locs hw => ?_)
    refine lv_aload_n hx hb dX6_mocks_5 rfl (lv_at hl 0 rfl) ?_
    refine a_getp (q := 2) (σ := aG r2n) (o := 0) (T := TX6) (N := 11) C wU_X6 hw rfl (by decide) rfl 2 (by decide) rfl wF_X6_20 (aG_P rfl rfl) dX6_mocks_6 ?_
    refine a_getp (q := 8) (σ := aG r2n) (o := 2) (T := TX2) (N := 11) C wU_X2 hw (aLin_k lin2).1 (by decide) rfl 8 (by decide) rfl wF_X6_144 (aLin_p lin2 r2n 5 (by decide)) dX6_mocks_9 ?_
    refine lv_iload_n hx hb dX6_mocks_12 rfl (lv_at hl 1 rfl) ?_
    obtain ⟨hi, hM⟩ := h_i hM
    refine a_iald (σ := aG r2n) (o := 8) C hw rfl hi rfl dX6_mocks_13 ?_
    cases h_e hM
    exact x_iret C hw dX6_mocks_14
def fx_X6_alike : Nat := 7
def wx_X6_alike : Nat := 111
set_option maxHeartbeats 400000 in
set_option maxRecDepth 100000 in
theorem tl_X6_alike_15 (l : Launch) {p : Program} {e : Env} {s : State} {m : MethodId} {args : Array Value} {below : List Frame} {meth : Method} {c : Code} {D : va_G} {dA : Nat → ClassId} {ad adV : Nat → Nat} {A : Nat → Prop} (C : aX p m c cX6_alike 5 s args aTs RX6 meth (some .int)) (hout : ∀ x ∈ c.exceptionTable.toList, False) (hst : l.stackTraces = false) {res : (Nat × iS) ⊕ (Int32 × iS)} : ∀ (n : Nat) (y1 : Int32) (y2 : Int32) (y3 : Int32) (y4 : Int32) {ι : iS}, l_X6_alike_15 n y1 y2 y3 y4 ι = some res → ∀ {H : Heap} {locs : List Loc} {ls : Array Slot}, aW D dA ad adV (aG ι) A s H locs → lv_has ls 5 [(0, .ref (ad 0)), (1, .int y1), (2, .int y2), (3, .int y3), (4, .int y4)] → W p l e (aRx fx_X6_alike wx_X6_alike (xoi res)) s m args below meth c H locs 0 0 (vx_MQ below (aQx D dA ad (xoi res) A) (aXx D dA ad (xoi res) A) args s (oc9 (xoi res)) (os9 (xoi res)) A) (F0 m 15 ls []) := by
  have hx := C.1.1
  have hb := C.1.2.1
  have hml := C.1.2.2.1
  have hown := C.1.2.2.2.1
  have hts := C.1.2.2.2.2
  intro n
  induction n with
  | zero => intro y1 y2 y3 y4 ι hM; simp [l_X6_alike_15] at hM
  | succ n ih =>
    intro y1 y2 y3 y4 ι hM H locs ls hw hl
    rw [l_X6_alike_15] at hM
    refine lv_iload hx hb dX6_alike_15 (lv_at hl 4 rfl) ?_
    refine lv_aload_n hx hb dX6_alike_17 rfl (lv_at hl 0 rfl) ?_
    refine a_getp (q := 2) (σ := aG ι) (o := 0) (T := TX6) (N := 11) C wU_X6 hw rfl (by decide) rfl 2 (by decide) rfl wF_X6_20 (aG_P rfl rfl) dX6_alike_18 ?_
    refine a_geti (σ := aG ι) (o := 2) (T := TX2) (N := 11) C wU_X2 hw (aLin_k lin2).1 (by decide) rfl 0 (by decide) rfl wF_X6_62 dX6_alike_21 ?_
    refine lv_icmp_ge (tgt := 63) hx hb dX6_alike_24 (by decide) (fun hc => ?_) (fun hc => ?_)
    · replace hM := h_t hc hM
      refine lv_iload_n hx hb dX6_alike_63 rfl (lv_at hl 3 rfl) ?_
      cases h_e hM
      exact x_iret C hw dX6_alike_64
    · replace hM := h_f hc hM
      refine lv_aload_n hx hb dX6_alike_27 rfl (lv_at hl 0 rfl) ?_
      refine a_getp (q := 2) (σ := aG ι) (o := 0) (T := TX6) (N := 11) C wU_X6 hw rfl (by decide) rfl 2 (by decide) rfl wF_X6_20 (aG_P rfl rfl) dX6_alike_28 ?_
      refine lv_iload_n hx hb dX6_alike_31 rfl (lv_at hl 1 rfl) ?_
      refine lv_iload hx hb dX6_alike_32 (lv_at hl 4 rfl) ?_
      obtain ⟨r34, hr34, hM⟩ := h_b hM
      refine a_callV (σ' := aG r34.2) (v := (some (.int r34.1))) (As := fun ad => [.int y1, .int y4]) (rest := []) (o := 2) C hw (c_X2_valueOf l (lin2) hr34) k_X2_valueOf wM_X6_154 ⟨⟨rfl, rfl⟩, ⟨Nat.le_of_ble_eq_true rfl, Nat.le_of_ble_eq_true rfl⟩⟩ (aLin_k lin2).1 (by decide) rfl rfl rfl hl rfl (Nat.le_of_ble_eq_true rfl) dX6_alike_34 ⟨Nat.zero_le _, Nat.zero_le _⟩ (fun H locs hw => ?_)
      refine lv_aload_n hx hb dX6_alike_37 rfl (lv_at hl 0 rfl) ?_
      refine a_getp (q := 2) (σ := aG r34.2) (o := 0) (T := TX6) (N := 11) C wU_X6 hw rfl (by decide) rfl 2 (by decide) rfl wF_X6_20 (aG_P rfl rfl) dX6_alike_38 ?_
      refine lv_iload_n hx hb dX6_alike_41 rfl (lv_at hl 2 rfl) ?_
      refine lv_iload hx hb dX6_alike_42 (lv_at hl 4 rfl) ?_
      obtain ⟨r44, hr44, hM⟩ := h_b hM
      refine a_callV (σ' := aG r44.2) (v := (some (.int r44.1))) (As := fun ad => [.int y2, .int y4]) (rest := [.int r34.1]) (o := 2) C hw (c_X2_valueOf l (lin2) hr44) k_X2_valueOf wM_X6_154 ⟨⟨rfl, rfl⟩, ⟨Nat.le_of_ble_eq_true rfl, Nat.le_of_ble_eq_true rfl⟩⟩ (aLin_k lin2).1 (by decide) rfl rfl rfl hl rfl (Nat.le_of_ble_eq_true rfl) dX6_alike_44 ⟨Nat.zero_le _, Nat.zero_le _⟩ (fun H locs hw => ?_)
      refine lv_icmp_ne (tgt := 57) hx hb dX6_alike_47 (by decide) (fun hc => ?_) (fun hc => ?_)
      · replace hM := h_f hc hM
        refine lv_iinc (v := (y4 + 1)) (lv' := [(4, .int (y4 + 1)), (0, .ref (ad 0)), (1, .int y1), (2, .int y2), (3, .int y3)]) hx hb dX6_alike_57 hl (k := 4) rfl rfl (by decide) rfl (fun ls hl => ?_)
        refine lv_goto (tgt := 15) hx hb dX6_alike_60 (by decide) ?_
        exact ih (y1) (y2) (y3) ((y4 + 1)) hM hw (lv_sub hl [1, 2, 3, 4, 0] rfl)
      · replace hM := h_t hc hM
        refine lv_iload_n hx hb dX6_alike_50 rfl (lv_at hl 3 rfl) ?_
        refine lv_iconst (v := (1 : Int32)) hx hb dX6_alike_51 (by decide) ?_
        refine lv_iload hx hb dX6_alike_52 (lv_at hl 4 rfl) ?_
        refine lv_ishl hx hb dX6_alike_54 ?_
        refine lv_ior hx hb dX6_alike_55 ?_
        refine lv_istore_n (lv' := [(3, .int (y3 ||| ((1 : Int32) <<< (y4 &&& 31)))), (0, .ref (ad 0)), (1, .int y1), (2, .int y2), (4, .int y4)]) hx hb dX6_alike_56 rfl hl (by decide) rfl (fun ls hl => ?_)
        refine lv_iinc (v := (y4 + 1)) (lv' := [(4, .int (y4 + 1)), (3, .int (y3 ||| ((1 : Int32) <<< (y4 &&& 31)))), (0, .ref (ad 0)), (1, .int y1), (2, .int y2)]) hx hb dX6_alike_57 hl (k := 4) rfl rfl (by decide) rfl (fun ls hl => ?_)
        refine lv_goto (tgt := 15) hx hb dX6_alike_60 (by decide) ?_
        exact ih (y1) (y2) ((y3 ||| ((1 : Int32) <<< (y4 &&& 31)))) ((y4 + 1)) hM hw (lv_sub hl [2, 3, 4, 1, 0] rfl)
theorem k_X6_alike : aCal RX6 yX6_alike cX6_alike 5 (some .int) 2 := ⟨wI_yX6_alike, wE_yX6_alike, wZ_X6, wC_yX6_alike, by decide +kernel⟩
set_option maxHeartbeats 400000 in
set_option maxRecDepth 100000 in
theorem c_X6_alike (l : Launch) (hst : l.stackTraces = false) {x1 : Int32} {x2 : Int32} {ι : iS} {res : (Nat × iS) ⊕ (Int32 × iS)} (hM : m_X6_alike x1 x2 ι = some res) : aMx l yX6_alike cX6_alike 5 (some .int) fx_X6_alike wx_X6_alike (fun ad => [.ref (ad 0), .int x1, .int x2]) (aG ι) (xoi res) := by
  refine aMx.of (by decide) (fun _ => Nat.le_of_ble_eq_true rfl) ?_
  intro p e s m args below meth c D dA ad adV A ls C hw hl hout
  have C : aX p m c cX6_alike 5 s args aTs RX6 meth (some .int) := C
  have hx := C.1.1
  have hb := C.1.2.1
  have hml := C.1.2.2.1
  have hown := C.1.2.2.2.1
  have hts := C.1.2.2.2.2
  have hl : lv_has ls 5 [(0, .ref (ad 0)), (1, .int x1), (2, .int x2)] := hl
  unfold m_X6_alike at hM
  refine lv_aload_n hx hb dX6_alike_0 rfl (lv_at hl 0 rfl) ?_
  refine lv_iload_n hx hb dX6_alike_1 rfl (lv_at hl 1 rfl) ?_
  obtain ⟨r2, hr2, hM⟩ := h_b hM
  cases r2 with
  | inl r2t =>
    replace hM : some (Sum.inl r2t) = some res := hM
    cases h_e hM
    have q9 := c_X6_needPerson l hst hr2
    exact x_callT (σ' := aG r2t.2) (E := aEx r2t.1) (As := fun ad => [.int x1]) (rest := []) (ob := 0) C hw hout q9 k_X6_needPerson wM_X6_112 ⟨Nat.le_of_ble_eq_true rfl, Nat.le_of_ble_eq_true rfl⟩ rfl (by decide) rfl rfl rfl hl rfl (Nat.le_of_ble_eq_true rfl) dX6_alike_2
  | inr r2n =>
    replace hM : (Option.bind (m_X6_needPerson x2 r2n) fun r7 => match r7 with | .inl r7t => some (.inl r7t) | .inr r7n => l_X6_alike_15 aF x1 x2 (0 : Int32) (0 : Int32) r7n) = some res := hM
    have q9 := c_X6_needPerson l hst hr2
    refine x_callN (σ' := aG r2n) (v := none) (As := fun ad => [.int x1]) (rest := []) (ob := 0) C hw q9 k_X6_needPerson wM_X6_112 ⟨Nat.le_of_ble_eq_true rfl, Nat.le_of_ble_eq_true rfl⟩ rfl (by decide) rfl rfl rfl hl rfl (Nat.le_of_ble_eq_true rfl) dX6_alike_2 ⟨Nat.zero_le _, Nat.zero_le _⟩ (fun H locs hw => ?_)
    refine lv_aload_n hx hb dX6_alike_5 rfl (lv_at hl 0 rfl) ?_
    refine lv_iload_n hx hb dX6_alike_6 rfl (lv_at hl 2 rfl) ?_
    obtain ⟨r7, hr7, hM⟩ := h_b hM
    cases r7 with
    | inl r7t =>
      replace hM : some (Sum.inl r7t) = some res := hM
      cases h_e hM
      have q9 := c_X6_needPerson l hst hr7
      exact x_callT (σ' := aG r7t.2) (E := aEx r7t.1) (As := fun ad => [.int x2]) (rest := []) (ob := 0) C hw hout q9 k_X6_needPerson wM_X6_112 ⟨Nat.le_of_ble_eq_true rfl, Nat.le_of_ble_eq_true rfl⟩ rfl (by decide) rfl rfl rfl hl rfl (Nat.le_of_ble_eq_true rfl) dX6_alike_7
    | inr r7n =>
      replace hM : (l_X6_alike_15 aF x1 x2 (0 : Int32) (0 : Int32) r7n) = some res := hM
      have q9 := c_X6_needPerson l hst hr7
      refine x_callN (σ' := aG r7n) (v := none) (As := fun ad => [.int x2]) (rest := []) (ob := 0) C hw q9 k_X6_needPerson wM_X6_112 ⟨Nat.le_of_ble_eq_true rfl, Nat.le_of_ble_eq_true rfl⟩ rfl (by decide) rfl rfl rfl hl rfl (Nat.le_of_ble_eq_true rfl) dX6_alike_7 ⟨Nat.zero_le _, Nat.zero_le _⟩ (fun H locs hw => ?_)
      refine lv_iconst (v := (0 : Int32)) hx hb dX6_alike_10 (by decide) ?_
      refine lv_istore_n (lv' := [(3, .int (0 : Int32)), (0, .ref (ad 0)), (1, .int x1), (2, .int x2)]) hx hb dX6_alike_11 rfl hl (by decide) rfl (fun ls hl => ?_)
      refine lv_iconst (v := (0 : Int32)) hx hb dX6_alike_12 (by decide) ?_
      refine lv_istore (lv' := [(4, .int (0 : Int32)), (3, .int (0 : Int32)), (0, .ref (ad 0)), (1, .int x1), (2, .int x2)]) hx hb dX6_alike_13 hl (by decide) rfl (fun ls hl => ?_)
      exact tl_X6_alike_15 l C hout hst aF (x1) (x2) ((0 : Int32)) ((0 : Int32)) hM hw (lv_sub hl [2, 3, 4, 1, 0] rfl)
