def m_X6_chance (x1 : Int32) (x2 : Int32) (x3 : Int32) (x4 : Int32) (x5 : Int32) (ι : iS) : Option ((Nat × iS) ⊕ (Int64 × iS)) := if x2 = (-1 : Int32) then Option.bind (m_X6_needRange x1 (0 : Int32) (1 : Int32) ι) fun r14 => match r14 with | .inl r14t => some (.inl r14t) | .inr r14n => Option.bind (m_X6_needRange x5 (0 : Int32) (1 : Int32) r14n) fun r22 => match r22 with | .inl r22t => some (.inl r22t) | .inr r22n => if x3 = 0 then Option.bind (m_X5_look 33 2 x3 x4 r22n) fun r51 => if x2 = (-1 : Int32) then Option.bind (m_X5_casesOfNobody 33 r51) fun r61 => Option.bind (m_X5_allCases 33 r61.2) fun r66 => Option.bind (m_X6_partOfFraction r61.1 r66.1 x5 r66.2) fun r71 => some (.inr (r71.1, r71.2)) else Option.bind (m_X2_placeOf 2 x2 r51) fun r83 => Option.bind (m_X5_casesOf 33 x1 r83.1 r83.2) fun r86 => Option.bind (m_X5_allCases 33 r86.2) fun r91 => Option.bind (m_X6_partOfFraction r86.1 r91.1 x5 r91.2) fun r96 => some (.inr (r96.1, r96.2)) else Option.bind (m_X5_look 31 2 x3 x4 r22n) fun r51 => if x2 = (-1 : Int32) then Option.bind (m_X5_casesOfNobody 31 r51) fun r61 => Option.bind (m_X5_allCases 31 r61.2) fun r66 => Option.bind (m_X6_partOfFraction r61.1 r66.1 x5 r66.2) fun r71 => some (.inr (r71.1, r71.2)) else Option.bind (m_X2_placeOf 2 x2 r51) fun r83 => Option.bind (m_X5_casesOf 31 x1 r83.1 r83.2) fun r86 => Option.bind (m_X5_allCases 31 r86.2) fun r91 => Option.bind (m_X6_partOfFraction r86.1 r91.1 x5 r91.2) fun r96 => some (.inr (r96.1, r96.2)) else Option.bind (m_X6_needPerson x2 ι) fun r7 => match r7 with | .inl r7t => some (.inl r7t) | .inr r7n => Option.bind (m_X6_needRange x1 (0 : Int32) (1 : Int32) r7n) fun r14 => match r14 with | .inl r14t => some (.inl r14t) | .inr r14n => Option.bind (m_X6_needRange x5 (0 : Int32) (1 : Int32) r14n) fun r22 => match r22 with | .inl r22t => some (.inl r22t) | .inr r22n => if x3 = 0 then Option.bind (m_X5_look 33 2 x3 x4 r22n) fun r51 => if x2 = (-1 : Int32) then Option.bind (m_X5_casesOfNobody 33 r51) fun r61 => Option.bind (m_X5_allCases 33 r61.2) fun r66 => Option.bind (m_X6_partOfFraction r61.1 r66.1 x5 r66.2) fun r71 => some (.inr (r71.1, r71.2)) else Option.bind (m_X2_placeOf 2 x2 r51) fun r83 => Option.bind (m_X5_casesOf 33 x1 r83.1 r83.2) fun r86 => Option.bind (m_X5_allCases 33 r86.2) fun r91 => Option.bind (m_X6_partOfFraction r86.1 r91.1 x5 r91.2) fun r96 => some (.inr (r96.1, r96.2)) else Option.bind (m_X5_look 31 2 x3 x4 r22n) fun r51 => if x2 = (-1 : Int32) then Option.bind (m_X5_casesOfNobody 31 r51) fun r61 => Option.bind (m_X5_allCases 31 r61.2) fun r66 => Option.bind (m_X6_partOfFraction r61.1 r66.1 x5 r66.2) fun r71 => some (.inr (r71.1, r71.2)) else Option.bind (m_X2_placeOf 2 x2 r51) fun r83 => Option.bind (m_X5_casesOf 31 x1 r83.1 r83.2) fun r86 => Option.bind (m_X5_allCases 31 r86.2) fun r91 => Option.bind (m_X6_partOfFraction r86.1 r91.1 x5 r91.2) fun r96 => some (.inr (r96.1, r96.2))
def l_X6_size_38 : Nat → Int32 → Nat → Int64 → Int64 → Int32 → iS → Option ((Nat × iS) ⊕ (Int64 × iS))
  | 0, _, _, _, _, _, _ => none
  | n + 1, y1, y2, y3, y5, y7, ι => if (gI ι 2 2) ≤ y7 then Option.bind (m_X6_partOfFraction (y3 * y3) y5 (y1 &&& (1 : Int32)) ι) fun r94 => some (.inr (r94.1, r94.2)) else if aIn y7 8 = true then if aIn (gI ι 7 y7.toNatClampNeg) 16 = true then l_X6_size_38 n y1 y2 (y3 + ((gI ι y2 (gI ι 7 y7.toNatClampNeg).toNatClampNeg)).toInt64) (y5 + (((gI ι y2 (gI ι 7 y7.toNatClampNeg).toNatClampNeg)).toInt64 * ((gI ι y2 (gI ι 7 y7.toNatClampNeg).toNatClampNeg)).toInt64)) (y7 + 1) ι else none else none
def m_X6_size (x1 : Int32) (ι : iS) : Option ((Nat × iS) ⊕ (Int64 × iS)) := Option.bind (m_X6_needRange x1 (0 : Int32) (3 : Int32) ι) fun r4 => match r4 with | .inl r4t => some (.inl r4t) | .inr r4n => if (2 : Int32) ≤ x1 then l_X6_size_38 aF x1 8 (0 : Int64) (0 : Int64) (0 : Int32) r4n else l_X6_size_38 aF x1 9 (0 : Int64) (0 : Int64) (0 : Int32) r4n
def m_X6_odds (x1 : Int32) (x2 : Int32) (x3 : Int32) (x4 : Int32) (ι : iS) : Option ((Nat × iS) ⊕ (Int64 × iS)) := Option.bind (m_X6_needRange x1 (0 : Int32) (1 : Int32) ι) fun r4 => match r4 with | .inl r4t => some (.inl r4t) | .inr r4n => Option.bind (m_X6_needRange x4 (0 : Int32) (1 : Int32) r4n) fun r12 => match r12 with | .inl r12t => some (.inl r12t) | .inr r12n => Option.bind (m_X2_placeOf 2 (0 : Int32) r12n) fun r20 => if r20.1 = (-1 : Int32) then Option.bind (m_X6_needState (0 : Int32) r20.2) fun r37 => match r37 with | .inl r37t => some (.inl r37t) | .inr r37n => Option.bind (m_X5_look 31 2 (1 : Int32) x2 r37n) fun r50 => Option.bind (m_X5_look 33 2 (0 : Int32) x2 r50) fun r63 => Option.bind (m_X5_casesOf 31 x1 r20.1 r63) fun r73 => Option.bind (m_X5_casesOf 33 x1 r20.1 r73.2) fun r85 => if x3 = 0 then Option.bind (m_X5_allCases 31 r85.2) fun r98 => Option.bind (m_X5_allCases 33 r98.2) fun r110 => Option.bind (m_X6_partOfFraction (((gI r110.2 6 3)).toInt64 * (r98.1 - r73.1)) ((((gI r110.2 6 3)).toInt64 * (r98.1 - r73.1)) + (((100 : Int64) - ((gI r110.2 6 3)).toInt64) * (r110.1 - r85.1))) x4 r110.2) fun r153 => some (.inr (r153.1, r153.2)) else Option.bind (m_X6_partOfFraction (((gI r85.2 6 3)).toInt64 * r73.1) ((((gI r85.2 6 3)).toInt64 * r73.1) + (((100 : Int64) - ((gI r85.2 6 3)).toInt64) * r85.1)) x4 r85.2) fun r153 => some (.inr (r153.1, r153.2)) else Option.bind (m_X6_needState (1 : Int32) r20.2) fun r37 => match r37 with | .inl r37t => some (.inl r37t) | .inr r37n => Option.bind (m_X5_look 31 2 (1 : Int32) x2 r37n) fun r50 => Option.bind (m_X5_look 33 2 (0 : Int32) x2 r50) fun r63 => Option.bind (m_X5_casesOf 31 x1 r20.1 r63) fun r73 => Option.bind (m_X5_casesOf 33 x1 r20.1 r73.2) fun r85 => if x3 = 0 then Option.bind (m_X5_allCases 31 r85.2) fun r98 => Option.bind (m_X5_allCases 33 r98.2) fun r110 => Option.bind (m_X6_partOfFraction (((gI r110.2 6 3)).toInt64 * (r98.1 - r73.1)) ((((gI r110.2 6 3)).toInt64 * (r98.1 - r73.1)) + (((100 : Int64) - ((gI r110.2 6 3)).toInt64) * (r110.1 - r85.1))) x4 r110.2) fun r153 => some (.inr (r153.1, r153.2)) else Option.bind (m_X6_partOfFraction (((gI r85.2 6 3)).toInt64 * r73.1) ((((gI r85.2 6 3)).toInt64 * r73.1) + (((100 : Int64) - ((gI r85.2 6 3)).toInt64) * r85.1)) x4 r85.2) fun r153 => some (.inr (r153.1, r153.2))
def l_X6_cut_64 : Nat → Int32 → Int32 → Int32 → Int64 → Int32 → iS → Option ((Nat × iS) ⊕ (Int32 × iS))
  | 0, _, _, _, _, _, _ => none
  | n + 1, y1, y2, y3, y4, y6, ι => if (120 : Int32) < y6 then some (.inr (y3, ι)) else Option.bind (m_X5_casesOf 31 y1 y2 (pI (pI ι 31 0 y6) 33 0 y6)) fun r95 => Option.bind (m_X5_casesOf 33 y1 y2 r95.2) fun r104 => if y6 = 0 then l_X6_cut_64 n y1 y2 y6 (r95.1 - r104.1) (y6 + 1) r104.2 else if (lg_cmp (r95.1 - r104.1) y4) ≤ 0 then l_X6_cut_64 n y1 y2 y3 y4 (y6 + 1) r104.2 else l_X6_cut_64 n y1 y2 y6 (r95.1 - r104.1) (y6 + 1) r104.2
def m_X6_cut (x1 : Int32) (ι : iS) : Option ((Nat × iS) ⊕ (Int32 × iS)) := Option.bind (m_X6_needRange x1 (0 : Int32) (1 : Int32) ι) fun r4 => match r4 with | .inl r4t => some (.inl r4t) | .inr r4n => Option.bind (m_X2_placeOf 2 (0 : Int32) r4n) fun r12 => if r12.1 = (-1 : Int32) then Option.bind (m_X6_needState (0 : Int32) r12.2) fun r27 => match r27 with | .inl r27t => some (.inl r27t) | .inr r27n => Option.bind (m_X5_look 31 2 (1 : Int32) (1 : Int32) r27n) fun r40 => Option.bind (m_X5_look 33 2 (0 : Int32) (1 : Int32) r40) fun r53 => l_X6_cut_64 aF x1 r12.1 (0 : Int32) (0 : Int64) (0 : Int32) r53 else Option.bind (m_X6_needState (1 : Int32) r12.2) fun r27 => match r27 with | .inl r27t => some (.inl r27t) | .inr r27n => Option.bind (m_X5_look 31 2 (1 : Int32) (1 : Int32) r27n) fun r40 => Option.bind (m_X5_look 33 2 (0 : Int32) (1 : Int32) r40) fun r53 => l_X6_cut_64 aF x1 r12.1 (0 : Int32) (0 : Int64) (0 : Int32) r53
def m_X6_nudged (x1 : Int32) (ι : iS) : Option ((Nat × iS) ⊕ (Int32 × iS)) := Option.bind (m_X6_needRange x1 (0 : Int32) (1 : Int32) ι) fun r4 => match r4 with | .inl r4t => some (.inl r4t) | .inr r4n => Option.bind (m_X2_placeOf 2 (0 : Int32) r4n) fun r12 => if r12.1 = (-1 : Int32) then Option.bind (m_X6_needState (0 : Int32) r12.2) fun r27 => match r27 with | .inl r27t => some (.inl r27t) | .inr r27n => Option.bind (m_X5_look 33 2 (0 : Int32) (1 : Int32) r27n) fun r40 => Option.bind (m_X5_casesOf 33 x1 r12.1 r40) fun r49 => Option.bind (m_X5_look 33 2 (0 : Int32) (0 : Int32) r49.2) fun r63 => Option.bind (m_X5_casesOf 33 x1 r12.1 r63) fun r72 => Option.bind (m_X5_allCases 33 r72.2) fun r83 => if (lg_cmp r83.1 (0 : Int64)) = 0 then some (.inr ((0 : Int32), r83.2)) else if ¬ r83.1 = 0 then some (.inr (((((100 : Int64) * (r72.1 - r49.1)) / r83.1)).toInt32, r83.2)) else none else Option.bind (m_X6_needState (1 : Int32) r12.2) fun r27 => match r27 with | .inl r27t => some (.inl r27t) | .inr r27n => Option.bind (m_X5_look 33 2 (0 : Int32) (1 : Int32) r27n) fun r40 => Option.bind (m_X5_casesOf 33 x1 r12.1 r40) fun r49 => Option.bind (m_X5_look 33 2 (0 : Int32) (0 : Int32) r49.2) fun r63 => Option.bind (m_X5_casesOf 33 x1 r12.1 r63) fun r72 => Option.bind (m_X5_allCases 33 r72.2) fun r83 => if (lg_cmp r83.1 (0 : Int64)) = 0 then some (.inr ((0 : Int32), r83.2)) else if ¬ r83.1 = 0 then some (.inr (((((100 : Int64) * (r72.1 - r49.1)) / r83.1)).toInt32, r83.2)) else none
def fx_X6_chance : Nat := 7
def wx_X6_chance : Nat := 144
theorem k_X6_chance : aCal RX6 yX6_chance cX6_chance 7 (some .long) 5 := ⟨wI_yX6_chance, wE_yX6_chance, wZ_X6, wC_yX6_chance, by decide +kernel⟩
set_option maxHeartbeats 400000 in
set_option maxRecDepth 100000 in
theorem c_X6_chance (l : Launch) (hst : l.stackTraces = false) {x1 : Int32} {x2 : Int32} {x3 : Int32} {x4 : Int32} {x5 : Int32} {ι : iS} {res : (Nat × iS) ⊕ (Int64 × iS)} (hM : m_X6_chance x1 x2 x3 x4 x5 ι = some res) : aMx l yX6_chance cX6_chance 7 (some .long) fx_X6_chance wx_X6_chance (fun ad => [.ref (ad 0), .int x1, .int x2, .int x3, .int x4, .int x5]) (aG ι) (xol res) := by
  refine aMx.of (by decide) (fun _ => Nat.le_of_ble_eq_true rfl) ?_
  intro p e s m args below meth c D dA ad adV A ls C hw hl hout
  have C : aX p m c cX6_chance 7 s args aTs RX6 meth (some .long) := C
  have hx := C.1.1
  have hb := C.1.2.1
  have hml := C.1.2.2.1
  have hown := C.1.2.2.2.1
  have hts := C.1.2.2.2.2
  have hl : lv_has ls 7 [(0, .ref (ad 0)), (1, .int x1), (2, .int x2), (3, .int x3), (4, .int x4), (5, .int x5)] := hl
  unfold m_X6_chance at hM
  refine lv_iload_n hx hb dX6_chance_0 rfl (lv_at hl 2 rfl) ?_
  refine lv_iconst (v := (-1 : Int32)) hx hb dX6_chance_1 (by decide) ?_
  refine lv_icmp_eq (tgt := 10) hx hb dX6_chance_2 (by decide) (fun hc => ?_) (fun hc => ?_)
  · replace hM := h_t hc hM
    refine lv_aload_n hx hb dX6_chance_10 rfl (lv_at hl 0 rfl) ?_
    refine lv_iload_n hx hb dX6_chance_11 rfl (lv_at hl 1 rfl) ?_
    refine lv_iconst (v := (0 : Int32)) hx hb dX6_chance_12 (by decide) ?_
    refine lv_iconst (v := (1 : Int32)) hx hb dX6_chance_13 (by decide) ?_
    obtain ⟨r14, hr14, hM⟩ := h_b hM
    cases r14 with
    | inl r14t =>
      replace hM : some (Sum.inl r14t) = some res := hM
      cases h_e hM
      have q9 := c_X6_needRange l hst hr14
      exact x_callT (σ' := aG r14t.2) (E := aEx r14t.1) (As := fun ad => [.int x1, .int (0 : Int32), .int (1 : Int32)]) (rest := []) (ob := 0) C hw hout q9 k_X6_needRange wM_X6_91 ⟨Nat.le_of_ble_eq_true rfl, Nat.le_of_ble_eq_true rfl⟩ rfl (by decide) rfl rfl rfl hl rfl (Nat.le_of_ble_eq_true rfl) dX6_chance_14
    | inr r14n =>
      replace hM : (Option.bind (m_X6_needRange x5 (0 : Int32) (1 : Int32) r14n) fun r22 => match r22 with | .inl r22t => some (.inl r22t) | .inr r22n => if x3 = 0 then Option.bind (m_X5_look 33 2 x3 x4 r22n) fun r51 => if x2 = (-1 : Int32) then Option.bind (m_X5_casesOfNobody 33 r51) fun r61 => Option.bind (m_X5_allCases 33 r61.2) fun r66 => Option.bind (m_X6_partOfFraction r61.1 r66.1 x5 r66.2) fun r71 => some (.inr (r71.1, r71.2)) else Option.bind (m_X2_placeOf 2 x2 r51) fun r83 => Option.bind (m_X5_casesOf 33 x1 r83.1 r83.2) fun r86 => Option.bind (m_X5_allCases 33 r86.2) fun r91 => Option.bind (m_X6_partOfFraction r86.1 r91.1 x5 r91.2) fun r96 => some (.inr (r96.1, r96.2)) else Option.bind (m_X5_look 31 2 x3 x4 r22n) fun r51 => if x2 = (-1 : Int32) then Option.bind (m_X5_casesOfNobody 31 r51) fun r61 => Option.bind (m_X5_allCases 31 r61.2) fun r66 => Option.bind (m_X6_partOfFraction r61.1 r66.1 x5 r66.2) fun r71 => some (.inr (r71.1, r71.2)) else Option.bind (m_X2_placeOf 2 x2 r51) fun r83 => Option.bind (m_X5_casesOf 31 x1 r83.1 r83.2) fun r86 => Option.bind (m_X5_allCases 31 r86.2) fun r91 => Option.bind (m_X6_partOfFraction r86.1 r91.1 x5 r91.2) fun r96 => some (.inr (r96.1, r96.2))) = some res := hM
      have q9 := c_X6_needRange l hst hr14
      refine x_callN (σ' := aG r14n) (v := none) (As := fun ad => [.int x1, .int (0 : Int32), .int (1 : Int32)]) (rest := []) (ob := 0) C hw q9 k_X6_needRange wM_X6_91 ⟨Nat.le_of_ble_eq_true rfl, Nat.le_of_ble_eq_true rfl⟩ rfl (by decide) rfl rfl rfl hl rfl (Nat.le_of_ble_eq_true rfl) dX6_chance_14 ⟨Nat.zero_le _, Nat.zero_le _⟩ (fun H locs hw => ?_)
      refine lv_aload_n hx hb dX6_chance_17 rfl (lv_at hl 0 rfl) ?_
      refine lv_iload hx hb dX6_chance_18 (lv_at hl 5 rfl) ?_
      refine lv_iconst (v := (0 : Int32)) hx hb dX6_chance_20 (by decide) ?_
      refine lv_iconst (v := (1 : Int32)) hx hb dX6_chance_21 (by decide) ?_
      obtain ⟨r22, hr22, hM⟩ := h_b hM
      cases r22 with
      | inl r22t =>
        replace hM : some (Sum.inl r22t) = some res := hM
        cases h_e hM
        have q9 := c_X6_needRange l hst hr22
        exact x_callT (σ' := aG r22t.2) (E := aEx r22t.1) (As := fun ad => [.int x5, .int (0 : Int32), .int (1 : Int32)]) (rest := []) (ob := 0) C hw hout q9 k_X6_needRange wM_X6_91 ⟨Nat.le_of_ble_eq_true rfl, Nat.le_of_ble_eq_true rfl⟩ rfl (by decide) rfl rfl rfl hl rfl (Nat.le_of_ble_eq_true rfl) dX6_chance_22
      | inr r22n =>
        replace hM : (if x3 = 0 then Option.bind (m_X5_look 33 2 x3 x4 r22n) fun r51 => if x2 = (-1 : Int32) then Option.bind (m_X5_casesOfNobody 33 r51) fun r61 => Option.bind (m_X5_allCases 33 r61.2) fun r66 => Option.bind (m_X6_partOfFraction r61.1 r66.1 x5 r66.2) fun r71 => some (.inr (r71.1, r71.2)) else Option.bind (m_X2_placeOf 2 x2 r51) fun r83 => Option.bind (m_X5_casesOf 33 x1 r83.1 r83.2) fun r86 => Option.bind (m_X5_allCases 33 r86.2) fun r91 => Option.bind (m_X6_partOfFraction r86.1 r91.1 x5 r91.2) fun r96 => some (.inr (r96.1, r96.2)) else Option.bind (m_X5_look 31 2 x3 x4 r22n) fun r51 => if x2 = (-1 : Int32) then Option.bind (m_X5_casesOfNobody 31 r51) fun r61 => Option.bind (m_X5_allCases 31 r61.2) fun r66 => Option.bind (m_X6_partOfFraction r61.1 r66.1 x5 r66.2) fun r71 => some (.inr (r71.1, r71.2)) else Option.bind (m_X2_placeOf 2 x2 r51) fun r83 => Option.bind (m_X5_casesOf 31 x1 r83.1 r83.2) fun r86 => Option.bind (m_X5_allCases 31 r86.2) fun r91 => Option.bind (m_X6_partOfFraction r86.1 r91.1 x5 r91.2) fun r96 => some (.inr (r96.1, r96.2))) = some res := hM
        have q9 := c_X6_needRange l hst hr22
        refine x_callN (σ' := aG r22n) (v := none) (As := fun ad => [.int x5, .int (0 : Int32), .int (1 : Int32)]) (rest := []) (ob := 0) C hw q9 k_X6_needRange wM_X6_91 ⟨Nat.le_of_ble_eq_true rfl, Nat.le_of_ble_eq_true rfl⟩ rfl (by decide) rfl rfl rfl hl rfl (Nat.le_of_ble_eq_true rfl) dX6_chance_22 ⟨Nat.zero_le _, Nat.zero_le _⟩ (fun H locs hw => ?_)
        refine lv_iload_n hx hb dX6_chance_25 rfl (lv_at hl 3 rfl) ?_
        refine lv_if_eq (tgt := 36) hx hb dX6_chance_26 (by decide) (fun hc => ?_) (fun hc => ?_)
        · replace hM := h_t hc hM
          refine lv_aload_n hx hb dX6_chance_36 rfl (lv_at hl 0 rfl) ?_
          refine a_getp (q := 33) (σ := aG r22n) (o := 0) (T := TX6) (N := 11) C wU_X6 hw rfl (by decide) rfl 9 (by decide) rfl wF_X6_52 (aG_P rfl rfl) dX6_chance_37 ?_
          refine lv_astore (lv' := [(6, .ref (ad 33)), (0, .ref (ad 0)), (1, .int x1), (2, .int x2), (3, .int x3), (4, .int x4), (5, .int x5)]) hx hb dX6_chance_40 hl (by decide) rfl (fun ls hl => ?_)
          refine lv_aload hx hb dX6_chance_42 (lv_at hl 0 rfl) ?_
          refine lv_aload_n hx hb dX6_chance_44 rfl (lv_at hl 1 rfl) ?_
          refine a_getp (q := 2) (σ := aG r22n) (o := 0) (T := TX6) (N := 11) C wU_X6 hw rfl (by decide) rfl 2 (by decide) rfl wF_X6_20 (aG_P rfl rfl) dX6_chance_45 ?_
          refine lv_iload_n hx hb dX6_chance_48 rfl (lv_at hl 4 rfl) ?_
          refine lv_iload hx hb dX6_chance_49 (lv_at hl 5 rfl) ?_
          obtain ⟨r51, hr51, hM⟩ := h_b hM
          refine a_callV (σ' := aG r51) (v := none) (As := fun ad => [.ref (ad 2), .int x3, .int x4]) (rest := []) (o := 33) C hw (c_X5_look l (wit33) (lin2) hr51) k_X5_look wM_X6_165 ⟨⟨rfl, rfl⟩, ⟨Nat.le_of_ble_eq_true rfl, Nat.le_of_ble_eq_true rfl⟩⟩ (aWit_k wit33).1 (by decide) rfl rfl rfl hl rfl (Nat.le_of_ble_eq_true rfl) dX6_chance_51 ⟨Nat.zero_le _, Nat.zero_le _⟩ (fun H locs hw => ?_)
          refine lv_iload_n hx hb dX6_chance_54 rfl (lv_at hl 3 rfl) ?_
          refine lv_iconst (v := (-1 : Int32)) hx hb dX6_chance_55 (by decide) ?_
          refine lv_icmp_ne (tgt := 75) hx hb dX6_chance_56 (by decide) (fun hc => ?_) (fun hc => ?_)
          · replace hM := h_f hc hM
            refine lv_aload hx hb dX6_chance_75 (lv_at hl 0 rfl) ?_
            refine lv_iload_n hx hb dX6_chance_77 rfl (lv_at hl 2 rfl) ?_
            refine lv_aload_n hx hb dX6_chance_78 rfl (lv_at hl 1 rfl) ?_
            refine a_getp (q := 2) (σ := aG r51) (o := 0) (T := TX6) (N := 11) C wU_X6 hw rfl (by decide) rfl 2 (by decide) rfl wF_X6_20 (aG_P rfl rfl) dX6_chance_79 ?_
            refine lv_iload_n hx hb dX6_chance_82 rfl (lv_at hl 3 rfl) ?_
            obtain ⟨r83, hr83, hM⟩ := h_b hM
            refine a_callV (σ' := aG r83.2) (v := (some (.int r83.1))) (As := fun ad => [.int x2]) (rest := [.int x1, .ref (ad 33)]) (o := 2) C hw (c_X2_placeOf l (lin2) hr83) k_X2_placeOf wM_X6_115 ⟨⟨rfl, rfl⟩, ⟨Nat.le_of_ble_eq_true rfl, Nat.le_of_ble_eq_true rfl⟩⟩ (aLin_k lin2).1 (by decide) rfl rfl rfl hl rfl (Nat.le_of_ble_eq_true rfl) dX6_chance_83 ⟨Nat.zero_le _, Nat.zero_le _⟩ (fun H locs hw => ?_)
            obtain ⟨r86, hr86, hM⟩ := h_b hM
            refine a_callV (σ' := aG r86.2) (v := (some (.long r86.1))) (As := fun ad => [.int x1, .int r83.1]) (rest := []) (o := 33) C hw (c_X5_casesOf l (wit33) hr86) k_X5_casesOf wM_X6_180 ⟨⟨rfl, rfl⟩, ⟨Nat.le_of_ble_eq_true rfl, Nat.le_of_ble_eq_true rfl⟩⟩ (aWit_k wit33).1 (by decide) rfl rfl rfl hl rfl (Nat.le_of_ble_eq_true rfl) dX6_chance_86 ⟨Nat.zero_le _, Nat.zero_le _⟩ (fun H locs hw => ?_)
            refine lv_aload hx hb dX6_chance_89 (lv_at hl 0 rfl) ?_
            obtain ⟨r91, hr91, hM⟩ := h_b hM
            refine a_callV (σ' := aG r91.2) (v := (some (.long r91.1))) (As := fun ad => []) (rest := [.long r86.1]) (o := 33) C hw (c_X5_allCases l (wit33) hr91) k_X5_allCases wM_X6_173 ⟨⟨rfl, rfl⟩, ⟨Nat.le_of_ble_eq_true rfl, Nat.le_of_ble_eq_true rfl⟩⟩ (aWit_k wit33).1 (by decide) rfl rfl rfl hl rfl (Nat.le_of_ble_eq_true rfl) dX6_chance_91 ⟨Nat.zero_le _, Nat.zero_le _⟩ (fun H locs hw => ?_)
            refine lv_iload hx hb dX6_chance_94 (lv_at hl 6 rfl) ?_
            obtain ⟨r96, hr96, hM⟩ := h_b hM
            refine a_callS  (σ' := aG r96.2) (v := (some (.long r96.1))) (as := fun ad => [.long r86.1, .long r91.1, .int x5]) (rest := []) C hw (c_X6_partOfFraction l hr96) k_X6_partOfFraction wM_X6_176 ⟨⟨rfl, rfl⟩, ⟨Nat.le_of_ble_eq_true rfl, Nat.le_of_ble_eq_true rfl⟩⟩ rfl hl rfl (Nat.le_of_ble_eq_true rfl) dX6_chance_96 ⟨Nat.zero_le _, Nat.zero_le _⟩ (fun H locs hw => ?_)
            cases h_e hM
            exact x_lret C hw dX6_chance_99
          · replace hM := h_t hc hM
            refine lv_aload hx hb dX6_chance_59 (lv_at hl 0 rfl) ?_
            obtain ⟨r61, hr61, hM⟩ := h_b hM
            refine a_callV (σ' := aG r61.2) (v := (some (.long r61.1))) (As := fun ad => []) (rest := []) (o := 33) C hw (c_X5_casesOfNobody l (wit33) hr61) k_X5_casesOfNobody wM_X6_169 ⟨⟨rfl, rfl⟩, ⟨Nat.le_of_ble_eq_true rfl, Nat.le_of_ble_eq_true rfl⟩⟩ (aWit_k wit33).1 (by decide) rfl rfl rfl hl rfl (Nat.le_of_ble_eq_true rfl) dX6_chance_61 ⟨Nat.zero_le _, Nat.zero_le _⟩ (fun H locs hw => ?_)
            refine lv_aload hx hb dX6_chance_64 (lv_at hl 0 rfl) ?_
            obtain ⟨r66, hr66, hM⟩ := h_b hM
            refine a_callV (σ' := aG r66.2) (v := (some (.long r66.1))) (As := fun ad => []) (rest := [.long r61.1]) (o := 33) C hw (c_X5_allCases l (wit33) hr66) k_X5_allCases wM_X6_173 ⟨⟨rfl, rfl⟩, ⟨Nat.le_of_ble_eq_true rfl, Nat.le_of_ble_eq_true rfl⟩⟩ (aWit_k wit33).1 (by decide) rfl rfl rfl hl rfl (Nat.le_of_ble_eq_true rfl) dX6_chance_66 ⟨Nat.zero_le _, Nat.zero_le _⟩ (fun H locs hw => ?_)
            refine lv_iload hx hb dX6_chance_69 (lv_at hl 6 rfl) ?_
            obtain ⟨r71, hr71, hM⟩ := h_b hM
            refine a_callS  (σ' := aG r71.2) (v := (some (.long r71.1))) (as := fun ad => [.long r61.1, .long r66.1, .int x5]) (rest := []) C hw (c_X6_partOfFraction l hr71) k_X6_partOfFraction wM_X6_176 ⟨⟨rfl, rfl⟩, ⟨Nat.le_of_ble_eq_true rfl, Nat.le_of_ble_eq_true rfl⟩⟩ rfl hl rfl (Nat.le_of_ble_eq_true rfl) dX6_chance_71 ⟨Nat.zero_le _, Nat.zero_le _⟩ (fun H locs hw => ?_)
            cases h_e hM
            exact x_lret C hw dX6_chance_74
        · replace hM := h_f hc hM
          refine lv_aload_n hx hb dX6_chance_29 rfl (lv_at hl 0 rfl) ?_
          refine a_getp (q := 31) (σ := aG r22n) (o := 0) (T := TX6) (N := 11) C wU_X6 hw rfl (by decide) rfl 8 (by decide) rfl wF_X6_48 (aG_P rfl rfl) dX6_chance_30 ?_
          refine lv_goto (tgt := 40) hx hb dX6_chance_33 (by decide) ?_
          refine lv_astore (lv' := [(6, .ref (ad 31)), (0, .ref (ad 0)), (1, .int x1), (2, .int x2), (3, .int x3), (4, .int x4), (5, .int x5)]) hx hb dX6_chance_40 hl (by decide) rfl (fun ls hl => ?_)
          refine lv_aload hx hb dX6_chance_42 (lv_at hl 0 rfl) ?_
          refine lv_aload_n hx hb dX6_chance_44 rfl (lv_at hl 1 rfl) ?_
          refine a_getp (q := 2) (σ := aG r22n) (o := 0) (T := TX6) (N := 11) C wU_X6 hw rfl (by decide) rfl 2 (by decide) rfl wF_X6_20 (aG_P rfl rfl) dX6_chance_45 ?_
          refine lv_iload_n hx hb dX6_chance_48 rfl (lv_at hl 4 rfl) ?_
          refine lv_iload hx hb dX6_chance_49 (lv_at hl 5 rfl) ?_
          obtain ⟨r51, hr51, hM⟩ := h_b hM
          refine a_callV (σ' := aG r51) (v := none) (As := fun ad => [.ref (ad 2), .int x3, .int x4]) (rest := []) (o := 31) C hw (c_X5_look l (wit31) (lin2) hr51) k_X5_look wM_X6_165 ⟨⟨rfl, rfl⟩, ⟨Nat.le_of_ble_eq_true rfl, Nat.le_of_ble_eq_true rfl⟩⟩ (aWit_k wit31).1 (by decide) rfl rfl rfl hl rfl (Nat.le_of_ble_eq_true rfl) dX6_chance_51 ⟨Nat.zero_le _, Nat.zero_le _⟩ (fun H locs hw => ?_)
          refine lv_iload_n hx hb dX6_chance_54 rfl (lv_at hl 3 rfl) ?_
          refine lv_iconst (v := (-1 : Int32)) hx hb dX6_chance_55 (by decide) ?_
          refine lv_icmp_ne (tgt := 75) hx hb dX6_chance_56 (by decide) (fun hc => ?_) (fun hc => ?_)
          · replace hM := h_f hc hM
            refine lv_aload hx hb dX6_chance_75 (lv_at hl 0 rfl) ?_
            refine lv_iload_n hx hb dX6_chance_77 rfl (lv_at hl 2 rfl) ?_
            refine lv_aload_n hx hb dX6_chance_78 rfl (lv_at hl 1 rfl) ?_
            refine a_getp (q := 2) (σ := aG r51) (o := 0) (T := TX6) (N := 11) C wU_X6 hw rfl (by decide) rfl 2 (by decide) rfl wF_X6_20 (aG_P rfl rfl) dX6_chance_79 ?_
            refine lv_iload_n hx hb dX6_chance_82 rfl (lv_at hl 3 rfl) ?_
            obtain ⟨r83, hr83, hM⟩ := h_b hM
            refine a_callV (σ' := aG r83.2) (v := (some (.int r83.1))) (As := fun ad => [.int x2]) (rest := [.int x1, .ref (ad 31)]) (o := 2) C hw (c_X2_placeOf l (lin2) hr83) k_X2_placeOf wM_X6_115 ⟨⟨rfl, rfl⟩, ⟨Nat.le_of_ble_eq_true rfl, Nat.le_of_ble_eq_true rfl⟩⟩ (aLin_k lin2).1 (by decide) rfl rfl rfl hl rfl (Nat.le_of_ble_eq_true rfl) dX6_chance_83 ⟨Nat.zero_le _, Nat.zero_le _⟩ (fun H locs hw => ?_)
            obtain ⟨r86, hr86, hM⟩ := h_b hM
            refine a_callV (σ' := aG r86.2) (v := (some (.long r86.1))) (As := fun ad => [.int x1, .int r83.1]) (rest := []) (o := 31) C hw (c_X5_casesOf l (wit31) hr86) k_X5_casesOf wM_X6_180 ⟨⟨rfl, rfl⟩, ⟨Nat.le_of_ble_eq_true rfl, Nat.le_of_ble_eq_true rfl⟩⟩ (aWit_k wit31).1 (by decide) rfl rfl rfl hl rfl (Nat.le_of_ble_eq_true rfl) dX6_chance_86 ⟨Nat.zero_le _, Nat.zero_le _⟩ (fun H locs hw => ?_)
            refine lv_aload hx hb dX6_chance_89 (lv_at hl 0 rfl) ?_
            obtain ⟨r91, hr91, hM⟩ := h_b hM
            refine a_callV (σ' := aG r91.2) (v := (some (.long r91.1))) (As := fun ad => []) (rest := [.long r86.1]) (o := 31) C hw (c_X5_allCases l (wit31) hr91) k_X5_allCases wM_X6_173 ⟨⟨rfl, rfl⟩, ⟨Nat.le_of_ble_eq_true rfl, Nat.le_of_ble_eq_true rfl⟩⟩ (aWit_k wit31).1 (by decide) rfl rfl rfl hl rfl (Nat.le_of_ble_eq_true rfl) dX6_chance_91 ⟨Nat.zero_le _, Nat.zero_le _⟩ (fun H locs hw => ?_)
            refine lv_iload hx hb dX6_chance_94 (lv_at hl 6 rfl) ?_
            obtain ⟨r96, hr96, hM⟩ := h_b hM
            refine a_callS  (σ' := aG r96.2) (v := (some (.long r96.1))) (as := fun ad => [.long r86.1, .long r91.1, .int x5]) (rest := []) C hw (c_X6_partOfFraction l hr96) k_X6_partOfFraction wM_X6_176 ⟨⟨rfl, rfl⟩, ⟨Nat.le_of_ble_eq_true rfl, Nat.le_of_ble_eq_true rfl⟩⟩ rfl hl rfl (Nat.le_of_ble_eq_true rfl) dX6_chance_96 ⟨Nat.zero_le _, Nat.zero_le _⟩ (fun H locs hw => ?_)
            cases h_e hM
            exact x_lret C hw dX6_chance_99
          · replace hM := h_t hc hM
            refine lv_aload hx hb dX6_chance_59 (lv_at hl 0 rfl) ?_
            obtain ⟨r61, hr61, hM⟩ := h_b hM
            refine a_callV (σ' := aG r61.2) (v := (some (.long r61.1))) (As := fun ad => []) (rest := []) (o := 31) C hw (c_X5_casesOfNobody l (wit31) hr61) k_X5_casesOfNobody wM_X6_169 ⟨⟨rfl, rfl⟩, ⟨Nat.le_of_ble_eq_true rfl, Nat.le_of_ble_eq_true rfl⟩⟩ (aWit_k wit31).1 (by decide) rfl rfl rfl hl rfl (Nat.le_of_ble_eq_true rfl) dX6_chance_61 ⟨Nat.zero_le _, Nat.zero_le _⟩ (fun H locs hw => ?_)
            refine lv_aload hx hb dX6_chance_64 (lv_at hl 0 rfl) ?_
            obtain ⟨r66, hr66, hM⟩ := h_b hM
            refine a_callV (σ' := aG r66.2) (v := (some (.long r66.1))) (As := fun ad => []) (rest := [.long r61.1]) (o := 31) C hw (c_X5_allCases l (wit31) hr66) k_X5_allCases wM_X6_173 ⟨⟨rfl, rfl⟩, ⟨Nat.le_of_ble_eq_true rfl, Nat.le_of_ble_eq_true rfl⟩⟩ (aWit_k wit31).1 (by decide) rfl rfl rfl hl rfl (Nat.le_of_ble_eq_true rfl) dX6_chance_66 ⟨Nat.zero_le _, Nat.zero_le _⟩ (fun H locs hw => ?_)
            refine lv_iload hx hb dX6_chance_69 (lv_at hl 6 rfl) ?_
            obtain ⟨r71, hr71, hM⟩ := h_b hM
            refine a_callS  (σ' := aG r71.2) (v := (some (.long r71.1))) (as := fun ad => [.long r61.1, .long r66.1, .int x5]) (rest := []) C hw (c_X6_partOfFraction l hr71) k_X6_partOfFraction wM_X6_176 ⟨⟨rfl, rfl⟩, ⟨Nat.le_of_ble_eq_true rfl, Nat.le_of_ble_eq_true rfl⟩⟩ rfl hl rfl (Nat.le_of_ble_eq_true rfl) dX6_chance_71 ⟨Nat.zero_le _, Nat.zero_le _⟩ (fun H locs hw => ?_)
            cases h_e hM
            exact x_lret C hw dX6_chance_74
  · replace hM := h_f hc hM
    refine lv_aload_n hx hb dX6_chance_5 rfl (lv_at hl 0 rfl) ?_
    refine lv_iload_n hx hb dX6_chance_6 rfl (lv_at hl 2 rfl) ?_
    obtain ⟨r7, hr7, hM⟩ := h_b hM
    cases r7 with
    | inl r7t =>
      replace hM : some (Sum.inl r7t) = some res := hM
      cases h_e hM
      have q9 := c_X6_needPerson l hst hr7
      exact x_callT (σ' := aG r7t.2) (E := aEx r7t.1) (As := fun ad => [.int x2]) (rest := []) (ob := 0) C hw hout q9 k_X6_needPerson wM_X6_112 ⟨Nat.le_of_ble_eq_true rfl, Nat.le_of_ble_eq_true rfl⟩ rfl (by decide) rfl rfl rfl hl rfl (Nat.le_of_ble_eq_true rfl) dX6_chance_7
    | inr r7n =>
      replace hM : (Option.bind (m_X6_needRange x1 (0 : Int32) (1 : Int32) r7n) fun r14 => match r14 with | .inl r14t => some (.inl r14t) | .inr r14n => Option.bind (m_X6_needRange x5 (0 : Int32) (1 : Int32) r14n) fun r22 => match r22 with | .inl r22t => some (.inl r22t) | .inr r22n => if x3 = 0 then Option.bind (m_X5_look 33 2 x3 x4 r22n) fun r51 => if x2 = (-1 : Int32) then Option.bind (m_X5_casesOfNobody 33 r51) fun r61 => Option.bind (m_X5_allCases 33 r61.2) fun r66 => Option.bind (m_X6_partOfFraction r61.1 r66.1 x5 r66.2) fun r71 => some (.inr (r71.1, r71.2)) else Option.bind (m_X2_placeOf 2 x2 r51) fun r83 => Option.bind (m_X5_casesOf 33 x1 r83.1 r83.2) fun r86 => Option.bind (m_X5_allCases 33 r86.2) fun r91 => Option.bind (m_X6_partOfFraction r86.1 r91.1 x5 r91.2) fun r96 => some (.inr (r96.1, r96.2)) else Option.bind (m_X5_look 31 2 x3 x4 r22n) fun r51 => if x2 = (-1 : Int32) then Option.bind (m_X5_casesOfNobody 31 r51) fun r61 => Option.bind (m_X5_allCases 31 r61.2) fun r66 => Option.bind (m_X6_partOfFraction r61.1 r66.1 x5 r66.2) fun r71 => some (.inr (r71.1, r71.2)) else Option.bind (m_X2_placeOf 2 x2 r51) fun r83 => Option.bind (m_X5_casesOf 31 x1 r83.1 r83.2) fun r86 => Option.bind (m_X5_allCases 31 r86.2) fun r91 => Option.bind (m_X6_partOfFraction r86.1 r91.1 x5 r91.2) fun r96 => some (.inr (r96.1, r96.2))) = some res := hM
      have q9 := c_X6_needPerson l hst hr7
      refine x_callN (σ' := aG r7n) (v := none) (As := fun ad => [.int x2]) (rest := []) (ob := 0) C hw q9 k_X6_needPerson wM_X6_112 ⟨Nat.le_of_ble_eq_true rfl, Nat.le_of_ble_eq_true rfl⟩ rfl (by decide) rfl rfl rfl hl rfl (Nat.le_of_ble_eq_true rfl) dX6_chance_7 ⟨Nat.zero_le _, Nat.zero_le _⟩ (fun H locs hw => ?_)
      refine lv_aload_n hx hb dX6_chance_10 rfl (lv_at hl 0 rfl) ?_
      refine lv_iload_n hx hb dX6_chance_11 rfl (lv_at hl 1 rfl) ?_
      refine lv_iconst (v := (0 : Int32)) hx hb dX6_chance_12 (by decide) ?_
      refine lv_iconst (v := (1 : Int32)) hx hb dX6_chance_13 (by decide) ?_
      obtain ⟨r14, hr14, hM⟩ := h_b hM
      cases r14 with
      | inl r14t =>
        replace hM : some (Sum.inl r14t) = some res := hM
        cases h_e hM
        have q9 := c_X6_needRange l hst hr14
        exact x_callT (σ' := aG r14t.2) (E := aEx r14t.1) (As := fun ad => [.int x1, .int (0 : Int32), .int (1 : Int32)]) (rest := []) (ob := 0) C hw hout q9 k_X6_needRange wM_X6_91 ⟨Nat.le_of_ble_eq_true rfl, Nat.le_of_ble_eq_true rfl⟩ rfl (by decide) rfl rfl rfl hl rfl (Nat.le_of_ble_eq_true rfl) dX6_chance_14
      | inr r14n =>
        replace hM : (Option.bind (m_X6_needRange x5 (0 : Int32) (1 : Int32) r14n) fun r22 => match r22 with | .inl r22t => some (.inl r22t) | .inr r22n => if x3 = 0 then Option.bind (m_X5_look 33 2 x3 x4 r22n) fun r51 => if x2 = (-1 : Int32) then Option.bind (m_X5_casesOfNobody 33 r51) fun r61 => Option.bind (m_X5_allCases 33 r61.2) fun r66 => Option.bind (m_X6_partOfFraction r61.1 r66.1 x5 r66.2) fun r71 => some (.inr (r71.1, r71.2)) else Option.bind (m_X2_placeOf 2 x2 r51) fun r83 => Option.bind (m_X5_casesOf 33 x1 r83.1 r83.2) fun r86 => Option.bind (m_X5_allCases 33 r86.2) fun r91 => Option.bind (m_X6_partOfFraction r86.1 r91.1 x5 r91.2) fun r96 => some (.inr (r96.1, r96.2)) else Option.bind (m_X5_look 31 2 x3 x4 r22n) fun r51 => if x2 = (-1 : Int32) then Option.bind (m_X5_casesOfNobody 31 r51) fun r61 => Option.bind (m_X5_allCases 31 r61.2) fun r66 => Option.bind (m_X6_partOfFraction r61.1 r66.1 x5 r66.2) fun r71 => some (.inr (r71.1, r71.2)) else Option.bind (m_X2_placeOf 2 x2 r51) fun r83 => Option.bind (m_X5_casesOf 31 x1 r83.1 r83.2) fun r86 => Option.bind (m_X5_allCases 31 r86.2) fun r91 => Option.bind (m_X6_partOfFraction r86.1 r91.1 x5 r91.2) fun r96 => some (.inr (r96.1, r96.2))) = some res := hM
        have q9 := c_X6_needRange l hst hr14
        refine x_callN (σ' := aG r14n) (v := none) (As := fun ad => [.int x1, .int (0 : Int32), .int (1 : Int32)]) (rest := []) (ob := 0) C hw q9 k_X6_needRange wM_X6_91 ⟨Nat.le_of_ble_eq_true rfl, Nat.le_of_ble_eq_true rfl⟩ rfl (by decide) rfl rfl rfl hl rfl (Nat.le_of_ble_eq_true rfl) dX6_chance_14 ⟨Nat.zero_le _, Nat.zero_le _⟩ (fun H locs hw => ?_)
        refine lv_aload_n hx hb dX6_chance_17 rfl (lv_at hl 0 rfl) ?_
        refine lv_iload hx hb dX6_chance_18 (lv_at hl 5 rfl) ?_
        refine lv_iconst (v := (0 : Int32)) hx hb dX6_chance_20 (by decide) ?_
        refine lv_iconst (v := (1 : Int32)) hx hb dX6_chance_21 (by decide) ?_
        obtain ⟨r22, hr22, hM⟩ := h_b hM
        cases r22 with
        | inl r22t =>
          replace hM : some (Sum.inl r22t) = some res := hM
          cases h_e hM
          have q9 := c_X6_needRange l hst hr22
          exact x_callT (σ' := aG r22t.2) (E := aEx r22t.1) (As := fun ad => [.int x5, .int (0 : Int32), .int (1 : Int32)]) (rest := []) (ob := 0) C hw hout q9 k_X6_needRange wM_X6_91 ⟨Nat.le_of_ble_eq_true rfl, Nat.le_of_ble_eq_true rfl⟩ rfl (by decide) rfl rfl rfl hl rfl (Nat.le_of_ble_eq_true rfl) dX6_chance_22
        | inr r22n =>
          replace hM : (if x3 = 0 then Option.bind (m_X5_look 33 2 x3 x4 r22n) fun r51 => if x2 = (-1 : Int32) then Option.bind (m_X5_casesOfNobody 33 r51) fun r61 => Option.bind (m_X5_allCases 33 r61.2) fun r66 => Option.bind (m_X6_partOfFraction r61.1 r66.1 x5 r66.2) fun r71 => some (.inr (r71.1, r71.2)) else Option.bind (m_X2_placeOf 2 x2 r51) fun r83 => Option.bind (m_X5_casesOf 33 x1 r83.1 r83.2) fun r86 => Option.bind (m_X5_allCases 33 r86.2) fun r91 => Option.bind (m_X6_partOfFraction r86.1 r91.1 x5 r91.2) fun r96 => some (.inr (r96.1, r96.2)) else Option.bind (m_X5_look 31 2 x3 x4 r22n) fun r51 => if x2 = (-1 : Int32) then Option.bind (m_X5_casesOfNobody 31 r51) fun r61 => Option.bind (m_X5_allCases 31 r61.2) fun r66 => Option.bind (m_X6_partOfFraction r61.1 r66.1 x5 r66.2) fun r71 => some (.inr (r71.1, r71.2)) else Option.bind (m_X2_placeOf 2 x2 r51) fun r83 => Option.bind (m_X5_casesOf 31 x1 r83.1 r83.2) fun r86 => Option.bind (m_X5_allCases 31 r86.2) fun r91 => Option.bind (m_X6_partOfFraction r86.1 r91.1 x5 r91.2) fun r96 => some (.inr (r96.1, r96.2))) = some res := hM
          have q9 := c_X6_needRange l hst hr22
          refine x_callN (σ' := aG r22n) (v := none) (As := fun ad => [.int x5, .int (0 : Int32), .int (1 : Int32)]) (rest := []) (ob := 0) C hw q9 k_X6_needRange wM_X6_91 ⟨Nat.le_of_ble_eq_true rfl, Nat.le_of_ble_eq_true rfl⟩ rfl (by decide) rfl rfl rfl hl rfl (Nat.le_of_ble_eq_true rfl) dX6_chance_22 ⟨Nat.zero_le _, Nat.zero_le _⟩ (fun H locs hw => ?_)
          refine lv_iload_n hx hb dX6_chance_25 rfl (lv_at hl 3 rfl) ?_
          refine lv_if_eq (tgt := 36) hx hb dX6_chance_26 (by decide) (fun hc => ?_) (fun hc => ?_)
          · replace hM := h_t hc hM
            refine lv_aload_n hx hb dX6_chance_36 rfl (lv_at hl 0 rfl) ?_
            refine a_getp (q := 33) (σ := aG r22n) (o := 0) (T := TX6) (N := 11) C wU_X6 hw rfl (by decide) rfl 9 (by decide) rfl wF_X6_52 (aG_P rfl rfl) dX6_chance_37 ?_
            refine lv_astore (lv' := [(6, .ref (ad 33)), (0, .ref (ad 0)), (1, .int x1), (2, .int x2), (3, .int x3), (4, .int x4), (5, .int x5)]) hx hb dX6_chance_40 hl (by decide) rfl (fun ls hl => ?_)
            refine lv_aload hx hb dX6_chance_42 (lv_at hl 0 rfl) ?_
            refine lv_aload_n hx hb dX6_chance_44 rfl (lv_at hl 1 rfl) ?_
            refine a_getp (q := 2) (σ := aG r22n) (o := 0) (T := TX6) (N := 11) C wU_X6 hw rfl (by decide) rfl 2 (by decide) rfl wF_X6_20 (aG_P rfl rfl) dX6_chance_45 ?_
            refine lv_iload_n hx hb dX6_chance_48 rfl (lv_at hl 4 rfl) ?_
            refine lv_iload hx hb dX6_chance_49 (lv_at hl 5 rfl) ?_
            obtain ⟨r51, hr51, hM⟩ := h_b hM
            refine a_callV (σ' := aG r51) (v := none) (As := fun ad => [.ref (ad 2), .int x3, .int x4]) (rest := []) (o := 33) C hw (c_X5_look l (wit33) (lin2) hr51) k_X5_look wM_X6_165 ⟨⟨rfl, rfl⟩, ⟨Nat.le_of_ble_eq_true rfl, Nat.le_of_ble_eq_true rfl⟩⟩ (aWit_k wit33).1 (by decide) rfl rfl rfl hl rfl (Nat.le_of_ble_eq_true rfl) dX6_chance_51 ⟨Nat.zero_le _, Nat.zero_le _⟩ (fun H locs hw => ?_)
            refine lv_iload_n hx hb dX6_chance_54 rfl (lv_at hl 3 rfl) ?_
            refine lv_iconst (v := (-1 : Int32)) hx hb dX6_chance_55 (by decide) ?_
            refine lv_icmp_ne (tgt := 75) hx hb dX6_chance_56 (by decide) (fun hc => ?_) (fun hc => ?_)
            · replace hM := h_f hc hM
              refine lv_aload hx hb dX6_chance_75 (lv_at hl 0 rfl) ?_
              refine lv_iload_n hx hb dX6_chance_77 rfl (lv_at hl 2 rfl) ?_
              refine lv_aload_n hx hb dX6_chance_78 rfl (lv_at hl 1 rfl) ?_
              refine a_getp (q := 2) (σ := aG r51) (o := 0) (T := TX6) (N := 11) C wU_X6 hw rfl (by decide) rfl 2 (by decide) rfl wF_X6_20 (aG_P rfl rfl) dX6_chance_79 ?_
              refine lv_iload_n hx hb dX6_chance_82 rfl (lv_at hl 3 rfl) ?_
              obtain ⟨r83, hr83, hM⟩ := h_b hM
              refine a_callV (σ' := aG r83.2) (v := (some (.int r83.1))) (As := fun ad => [.int x2]) (rest := [.int x1, .ref (ad 33)]) (o := 2) C hw (c_X2_placeOf l (lin2) hr83) k_X2_placeOf wM_X6_115 ⟨⟨rfl, rfl⟩, ⟨Nat.le_of_ble_eq_true rfl, Nat.le_of_ble_eq_true rfl⟩⟩ (aLin_k lin2).1 (by decide) rfl rfl rfl hl rfl (Nat.le_of_ble_eq_true rfl) dX6_chance_83 ⟨Nat.zero_le _, Nat.zero_le _⟩ (fun H locs hw => ?_)
              obtain ⟨r86, hr86, hM⟩ := h_b hM
              refine a_callV (σ' := aG r86.2) (v := (some (.long r86.1))) (As := fun ad => [.int x1, .int r83.1]) (rest := []) (o := 33) C hw (c_X5_casesOf l (wit33) hr86) k_X5_casesOf wM_X6_180 ⟨⟨rfl, rfl⟩, ⟨Nat.le_of_ble_eq_true rfl, Nat.le_of_ble_eq_true rfl⟩⟩ (aWit_k wit33).1 (by decide) rfl rfl rfl hl rfl (Nat.le_of_ble_eq_true rfl) dX6_chance_86 ⟨Nat.zero_le _, Nat.zero_le _⟩ (fun H locs hw => ?_)
              refine lv_aload hx hb dX6_chance_89 (lv_at hl 0 rfl) ?_
              obtain ⟨r91, hr91, hM⟩ := h_b hM
              refine a_callV (σ' := aG r91.2) (v := (some (.long r91.1))) (As := fun ad => []) (rest := [.long r86.1]) (o := 33) C hw (c_X5_allCases l (wit33) hr91) k_X5_allCases wM_X6_173 ⟨⟨rfl, rfl⟩, ⟨Nat.le_of_ble_eq_true rfl, Nat.le_of_ble_eq_true rfl⟩⟩ (aWit_k wit33).1 (by decide) rfl rfl rfl hl rfl (Nat.le_of_ble_eq_true rfl) dX6_chance_91 ⟨Nat.zero_le _, Nat.zero_le _⟩ (fun H locs hw => ?_)
              refine lv_iload hx hb dX6_chance_94 (lv_at hl 6 rfl) ?_
              obtain ⟨r96, hr96, hM⟩ := h_b hM
              refine a_callS  (σ' := aG r96.2) (v := (some (.long r96.1))) (as := fun ad => [.long r86.1, .long r91.1, .int x5]) (rest := []) C hw (c_X6_partOfFraction l hr96) k_X6_partOfFraction wM_X6_176 ⟨⟨rfl, rfl⟩, ⟨Nat.le_of_ble_eq_true rfl, Nat.le_of_ble_eq_true rfl⟩⟩ rfl hl rfl (Nat.le_of_ble_eq_true rfl) dX6_chance_96 ⟨Nat.zero_le _, Nat.zero_le _⟩ (fun H locs hw => ?_)
              cases h_e hM
              exact x_lret C hw dX6_chance_99
            · replace hM := h_t hc hM
              refine lv_aload hx hb dX6_chance_59 (lv_at hl 0 rfl) ?_
              obtain ⟨r61, hr61, hM⟩ := h_b hM
              refine a_callV (σ' := aG r61.2) (v := (some (.long r61.1))) (As := fun ad => []) (rest := []) (o := 33) C hw (c_X5_casesOfNobody l (wit33) hr61) k_X5_casesOfNobody wM_X6_169 ⟨⟨rfl, rfl⟩, ⟨Nat.le_of_ble_eq_true rfl, Nat.le_of_ble_eq_true rfl⟩⟩ (aWit_k wit33).1 (by decide) rfl rfl rfl hl rfl (Nat.le_of_ble_eq_true rfl) dX6_chance_61 ⟨Nat.zero_le _, Nat.zero_le _⟩ (fun H locs hw => ?_)
              refine lv_aload hx hb dX6_chance_64 (lv_at hl 0 rfl) ?_
              obtain ⟨r66, hr66, hM⟩ := h_b hM
              refine a_callV (σ' := aG r66.2) (v := (some (.long r66.1))) (As := fun ad => []) (rest := [.long r61.1]) (o := 33) C hw (c_X5_allCases l (wit33) hr66) k_X5_allCases wM_X6_173 ⟨⟨rfl, rfl⟩, ⟨Nat.le_of_ble_eq_true rfl, Nat.le_of_ble_eq_true rfl⟩⟩ (aWit_k wit33).1 (by decide) rfl rfl rfl hl rfl (Nat.le_of_ble_eq_true rfl) dX6_chance_66 ⟨Nat.zero_le _, Nat.zero_le _⟩ (fun H locs hw => ?_)
              refine lv_iload hx hb dX6_chance_69 (lv_at hl 6 rfl) ?_
              obtain ⟨r71, hr71, hM⟩ := h_b hM
              refine a_callS  (σ' := aG r71.2) (v := (some (.long r71.1))) (as := fun ad => [.long r61.1, .long r66.1, .int x5]) (rest := []) C hw (c_X6_partOfFraction l hr71) k_X6_partOfFraction wM_X6_176 ⟨⟨rfl, rfl⟩, ⟨Nat.le_of_ble_eq_true rfl, Nat.le_of_ble_eq_true rfl⟩⟩ rfl hl rfl (Nat.le_of_ble_eq_true rfl) dX6_chance_71 ⟨Nat.zero_le _, Nat.zero_le _⟩ (fun H locs hw => ?_)
              cases h_e hM
              exact x_lret C hw dX6_chance_74
          · replace hM := h_f hc hM
            refine lv_aload_n hx hb dX6_chance_29 rfl (lv_at hl 0 rfl) ?_
            refine a_getp (q := 31) (σ := aG r22n) (o := 0) (T := TX6) (N := 11) C wU_X6 hw rfl (by decide) rfl 8 (by decide) rfl wF_X6_48 (aG_P rfl rfl) dX6_chance_30 ?_
            refine lv_goto (tgt := 40) hx hb dX6_chance_33 (by decide) ?_
            refine lv_astore (lv' := [(6, .ref (ad 31)), (0, .ref (ad 0)), (1, .int x1), (2, .int x2), (3, .int x3), (4, .int x4), (5, .int x5)]) hx hb dX6_chance_40 hl (by decide) rfl (fun ls hl => ?_)
            refine lv_aload hx hb dX6_chance_42 (lv_at hl 0 rfl) ?_
            refine lv_aload_n hx hb dX6_chance_44 rfl (lv_at hl 1 rfl) ?_
            refine a_getp (q := 2) (σ := aG r22n) (o := 0) (T := TX6) (N := 11) C wU_X6 hw rfl (by decide) rfl 2 (by decide) rfl wF_X6_20 (aG_P rfl rfl) dX6_chance_45 ?_
            refine lv_iload_n hx hb dX6_chance_48 rfl (lv_at hl 4 rfl) ?_
            refine lv_iload hx hb dX6_chance_49 (lv_at hl 5 rfl) ?_
            obtain ⟨r51, hr51, hM⟩ := h_b hM
            refine a_callV (σ' := aG r51) (v := none) (As := fun ad => [.ref (ad 2), .int x3, .int x4]) (rest := []) (o := 31) C hw (c_X5_look l (wit31) (lin2) hr51) k_X5_look wM_X6_165 ⟨⟨rfl, rfl⟩, ⟨Nat.le_of_ble_eq_true rfl, Nat.le_of_ble_eq_true rfl⟩⟩ (aWit_k wit31).1 (by decide) rfl rfl rfl hl rfl (Nat.le_of_ble_eq_true rfl) dX6_chance_51 ⟨Nat.zero_le _, Nat.zero_le _⟩ (fun H locs hw => ?_)
            refine lv_iload_n hx hb dX6_chance_54 rfl (lv_at hl 3 rfl) ?_
            refine lv_iconst (v := (-1 : Int32)) hx hb dX6_chance_55 (by decide) ?_
            refine lv_icmp_ne (tgt := 75) hx hb dX6_chance_56 (by decide) (fun hc => ?_) (fun hc => ?_)
            · replace hM := h_f hc hM
              refine lv_aload hx hb dX6_chance_75 (lv_at hl 0 rfl) ?_
              refine lv_iload_n hx hb dX6_chance_77 rfl (lv_at hl 2 rfl) ?_
              refine lv_aload_n hx hb dX6_chance_78 rfl (lv_at hl 1 rfl) ?_
              refine a_getp (q := 2) (σ := aG r51) (o := 0) (T := TX6) (N := 11) C wU_X6 hw rfl (by decide) rfl 2 (by decide) rfl wF_X6_20 (aG_P rfl rfl) dX6_chance_79 ?_
              refine lv_iload_n hx hb dX6_chance_82 rfl (lv_at hl 3 rfl) ?_
              obtain ⟨r83, hr83, hM⟩ := h_b hM
              refine a_callV (σ' := aG r83.2) (v := (some (.int r83.1))) (As := fun ad => [.int x2]) (rest := [.int x1, .ref (ad 31)]) (o := 2) C hw (c_X2_placeOf l (lin2) hr83) k_X2_placeOf wM_X6_115 ⟨⟨rfl, rfl⟩, ⟨Nat.le_of_ble_eq_true rfl, Nat.le_of_ble_eq_true rfl⟩⟩ (aLin_k lin2).1 (by decide) rfl rfl rfl hl rfl (Nat.le_of_ble_eq_true rfl) dX6_chance_83 ⟨Nat.zero_le _, Nat.zero_le _⟩ (fun H locs hw => ?_)
              obtain ⟨r86, hr86, hM⟩ := h_b hM
              refine a_callV (σ' := aG r86.2) (v := (some (.long r86.1))) (As := fun ad => [.int x1, .int r83.1]) (rest := []) (o := 31) C hw (c_X5_casesOf l (wit31) hr86) k_X5_casesOf wM_X6_180 ⟨⟨rfl, rfl⟩, ⟨Nat.le_of_ble_eq_true rfl, Nat.le_of_ble_eq_true rfl⟩⟩ (aWit_k wit31).1 (by decide) rfl rfl rfl hl rfl (Nat.le_of_ble_eq_true rfl) dX6_chance_86 ⟨Nat.zero_le _, Nat.zero_le _⟩ (fun H locs hw => ?_)
              refine lv_aload hx hb dX6_chance_89 (lv_at hl 0 rfl) ?_
              obtain ⟨r91, hr91, hM⟩ := h_b hM
              refine a_callV (σ' := aG r91.2) (v := (some (.long r91.1))) (As := fun ad => []) (rest := [.long r86.1]) (o := 31) C hw (c_X5_allCases l (wit31) hr91) k_X5_allCases wM_X6_173 ⟨⟨rfl, rfl⟩, ⟨Nat.le_of_ble_eq_true rfl, Nat.le_of_ble_eq_true rfl⟩⟩ (aWit_k wit31).1 (by decide) rfl rfl rfl hl rfl (Nat.le_of_ble_eq_true rfl) dX6_chance_91 ⟨Nat.zero_le _, Nat.zero_le _⟩ (fun H locs hw => ?_)
              refine lv_iload hx hb dX6_chance_94 (lv_at hl 6 rfl) ?_
              obtain ⟨r96, hr96, hM⟩ := h_b hM
              refine a_callS  (σ' := aG r96.2) (v := (some (.long r96.1))) (as := fun ad => [.long r86.1, .long r91.1, .int x5]) (rest := []) C hw (c_X6_partOfFraction l hr96) k_X6_partOfFraction wM_X6_176 ⟨⟨rfl, rfl⟩, ⟨Nat.le_of_ble_eq_true rfl, Nat.le_of_ble_eq_true rfl⟩⟩ rfl hl rfl (Nat.le_of_ble_eq_true rfl) dX6_chance_96 ⟨Nat.zero_le _, Nat.zero_le _⟩ (fun H locs hw => ?_)
              cases h_e hM
              exact x_lret C hw dX6_chance_99
            · replace hM := h_t hc hM
              refine lv_aload hx hb dX6_chance_59 (lv_at hl 0 rfl) ?_
              obtain ⟨r61, hr61, hM⟩ := h_b hM
              refine a_callV (σ' := aG r61.2) (v := (some (.long r61.1))) (As := fun ad => []) (rest := []) (o := 31) C hw (c_X5_casesOfNobody l (wit31) hr61) k_X5_casesOfNobody wM_X6_169 ⟨⟨rfl, rfl⟩, ⟨Nat.le_of_ble_eq_true rfl, Nat.le_of_ble_eq_true rfl⟩⟩ (aWit_k wit31).1 (by decide) rfl rfl rfl hl rfl (Nat.le_of_ble_eq_true rfl) dX6_chance_61 ⟨Nat.zero_le _, Nat.zero_le _⟩ (fun H locs hw => ?_)
              refine lv_aload hx hb dX6_chance_64 (lv_at hl 0 rfl) ?_
              obtain ⟨r66, hr66, hM⟩ := h_b hM
              refine a_callV (σ' := aG r66.2) (v := (some (.long r66.1))) (As := fun ad => []) (rest := [.long r61.1]) (o := 31) C hw (c_X5_allCases l (wit31) hr66) k_X5_allCases wM_X6_173 ⟨⟨rfl, rfl⟩, ⟨Nat.le_of_ble_eq_true rfl, Nat.le_of_ble_eq_true rfl⟩⟩ (aWit_k wit31).1 (by decide) rfl rfl rfl hl rfl (Nat.le_of_ble_eq_true rfl) dX6_chance_66 ⟨Nat.zero_le _, Nat.zero_le _⟩ (fun H locs hw => ?_)
              refine lv_iload hx hb dX6_chance_69 (lv_at hl 6 rfl) ?_
              obtain ⟨r71, hr71, hM⟩ := h_b hM
              refine a_callS  (σ' := aG r71.2) (v := (some (.long r71.1))) (as := fun ad => [.long r61.1, .long r66.1, .int x5]) (rest := []) C hw (c_X6_partOfFraction l hr71) k_X6_partOfFraction wM_X6_176 ⟨⟨rfl, rfl⟩, ⟨Nat.le_of_ble_eq_true rfl, Nat.le_of_ble_eq_true rfl⟩⟩ rfl hl rfl (Nat.le_of_ble_eq_true rfl) dX6_chance_71 ⟨Nat.zero_le _, Nat.zero_le _⟩ (fun H locs hw => ?_)
              cases h_e hM
              exact x_lret C hw dX6_chance_74
def fx_X6_size : Nat := 7
def wx_X6_size : Nat := 113
set_option maxHeartbeats 400000 in
set_option maxRecDepth 100000 in
theorem tl_X6_size_38 (l : Launch) {p : Program} {e : Env} {s : State} {m : MethodId} {args : Array Value} {below : List Frame} {meth : Method} {c : Code} {D : va_G} {dA : Nat → ClassId} {ad adV : Nat → Nat} {A : Nat → Prop} (C : aX p m c cX6_size 10 s args aTs RX6 meth (some .long)) (hout : ∀ x ∈ c.exceptionTable.toList, False) (hst : l.stackTraces = false) {res : (Nat × iS) ⊕ (Int64 × iS)} : ∀ (n : Nat) (y1 : Int32) (y2 : Nat) (y3 : Int64) (y5 : Int64) (y7 : Int32) (hky2 : aKd[y2]? = some (9, 16)) {ι : iS}, l_X6_size_38 n y1 y2 y3 y5 y7 ι = some res → ∀ {H : Heap} {locs : List Loc} {ls : Array Slot}, aW D dA ad adV (aG ι) A s H locs → lv_has ls 10 [(0, .ref (ad 0)), (1, .int y1), (2, .ref (ad y2)), (3, .long y3), (5, .long y5), (7, .int y7)] → W p l e (aRx fx_X6_size wx_X6_size (xol res)) s m args below meth c H locs 0 0 (vx_MQ below (aQx D dA ad (xol res) A) (aXx D dA ad (xol res) A) args s (oc9 (xol res)) (os9 (xol res)) A) (F0 m 38 ls []) := by
  have hx := C.1.1
  have hb := C.1.2.1
  have hml := C.1.2.2.1
  have hown := C.1.2.2.2.1
  have hts := C.1.2.2.2.2
  intro n
  induction n with
  | zero => intro y1 y2 y3 y5 y7 hky2 ι hM; simp [l_X6_size_38] at hM
  | succ n ih =>
    intro y1 y2 y3 y5 y7 hky2 ι hM H locs ls hw hl
    rw [l_X6_size_38] at hM
    refine lv_iload hx hb dX6_size_38 (lv_at hl 5 rfl) ?_
    refine lv_aload_n hx hb dX6_size_40 rfl (lv_at hl 0 rfl) ?_
    refine a_getp (q := 2) (σ := aG ι) (o := 0) (T := TX6) (N := 11) C wU_X6 hw rfl (by decide) rfl 2 (by decide) rfl wF_X6_20 (aG_P rfl rfl) dX6_size_41 ?_
    refine a_geti (σ := aG ι) (o := 2) (T := TX2) (N := 11) C wU_X2 hw (aLin_k lin2).1 (by decide) rfl 2 (by decide) rfl wF_X6_119 dX6_size_44 ?_
    refine lv_icmp_ge (tgt := 86) hx hb dX6_size_47 (by decide) (fun hc => ?_) (fun hc => ?_)
    · replace hM := h_t hc hM
      refine lv_lload_n hx hb dX6_size_86 rfl (lv_at hl 3 rfl) ?_
      refine lv_lload_n hx hb dX6_size_87 rfl (lv_at hl 3 rfl) ?_
      refine lv_lmul hx hb dX6_size_88 ?_
      refine lv_lload hx hb dX6_size_89 (lv_at hl 4 rfl) ?_
      refine lv_iload_n hx hb dX6_size_91 rfl (lv_at hl 1 rfl) ?_
      refine lv_iconst (v := (1 : Int32)) hx hb dX6_size_92 (by decide) ?_
      refine lv_iand hx hb dX6_size_93 ?_
      obtain ⟨r94, hr94, hM⟩ := h_b hM
      refine a_callS  (σ' := aG r94.2) (v := (some (.long r94.1))) (as := fun ad => [.long (y3 * y3), .long y5, .int (y1 &&& (1 : Int32))]) (rest := []) C hw (c_X6_partOfFraction l hr94) k_X6_partOfFraction wM_X6_176 ⟨⟨rfl, rfl⟩, ⟨Nat.le_of_ble_eq_true rfl, Nat.le_of_ble_eq_true rfl⟩⟩ rfl hl rfl (Nat.le_of_ble_eq_true rfl) dX6_size_94 ⟨Nat.zero_le _, Nat.zero_le _⟩ (fun H locs hw => ?_)
      cases h_e hM
      exact x_lret C hw dX6_size_97
    · replace hM := h_f hc hM
      refine lv_aload_n hx hb dX6_size_50 rfl (lv_at hl 2 rfl) ?_
      refine lv_aload_n hx hb dX6_size_51 rfl (lv_at hl 0 rfl) ?_
      refine a_getp (q := 2) (σ := aG ι) (o := 0) (T := TX6) (N := 11) C wU_X6 hw rfl (by decide) rfl 2 (by decide) rfl wF_X6_20 (aG_P rfl rfl) dX6_size_52 ?_
      refine a_getp (q := 7) (σ := aG ι) (o := 2) (T := TX2) (N := 11) C wU_X2 hw (aLin_k lin2).1 (by decide) rfl 7 (by decide) rfl wF_X6_158 (aLin_p lin2 ι 4 (by decide)) dX6_size_55 ?_
      refine lv_iload hx hb dX6_size_58 (lv_at hl 5 rfl) ?_
      obtain ⟨hi, hM⟩ := h_i hM
      refine a_iald (σ := aG ι) (o := 7) C hw rfl hi rfl dX6_size_60 ?_
      obtain ⟨hi, hM⟩ := h_i hM
      refine a_iald (σ := aG ι) (o := y2) C hw hky2 hi rfl dX6_size_61 ?_
      refine lv_i2l hx hb dX6_size_62 rfl ?_
      refine lv_lstore (lv' := [(8, .long ((gI ι y2 (gI ι 7 y7.toNatClampNeg).toNatClampNeg)).toInt64), (0, .ref (ad 0)), (1, .int y1), (2, .ref (ad y2)), (3, .long y3), (5, .long y5), (7, .int y7)]) hx hb dX6_size_63 hl (by decide) rfl (fun ls hl => ?_)
      refine lv_lload_n hx hb dX6_size_65 rfl (lv_at hl 4 rfl) ?_
      refine lv_lload hx hb dX6_size_66 (lv_at hl 0 rfl) ?_
      refine lv_ladd hx hb dX6_size_68 ?_
      refine lv_lstore_n (lv' := [(3, .long (y3 + ((gI ι y2 (gI ι 7 y7.toNatClampNeg).toNatClampNeg)).toInt64)), (8, .long ((gI ι y2 (gI ι 7 y7.toNatClampNeg).toNatClampNeg)).toInt64), (0, .ref (ad 0)), (1, .int y1), (2, .ref (ad y2)), (5, .long y5), (7, .int y7)]) hx hb dX6_size_69 rfl hl (by decide) rfl (fun ls hl => ?_)
      refine lv_lload hx hb dX6_size_70 (lv_at hl 5 rfl) ?_
      refine lv_lload hx hb dX6_size_72 (lv_at hl 1 rfl) ?_
      refine lv_lload hx hb dX6_size_74 (lv_at hl 1 rfl) ?_
      refine lv_lmul hx hb dX6_size_76 ?_
      refine lv_ladd hx hb dX6_size_77 ?_
      refine lv_lstore (lv' := [(5, .long (y5 + (((gI ι y2 (gI ι 7 y7.toNatClampNeg).toNatClampNeg)).toInt64 * ((gI ι y2 (gI ι 7 y7.toNatClampNeg).toNatClampNeg)).toInt64))), (3, .long (y3 + ((gI ι y2 (gI ι 7 y7.toNatClampNeg).toNatClampNeg)).toInt64)), (8, .long ((gI ι y2 (gI ι 7 y7.toNatClampNeg).toNatClampNeg)).toInt64), (0, .ref (ad 0)), (1, .int y1), (2, .ref (ad y2)), (7, .int y7)]) hx hb dX6_size_78 hl (by decide) rfl (fun ls hl => ?_)
      refine lv_iinc (v := (y7 + 1)) (lv' := [(7, .int (y7 + 1)), (5, .long (y5 + (((gI ι y2 (gI ι 7 y7.toNatClampNeg).toNatClampNeg)).toInt64 * ((gI ι y2 (gI ι 7 y7.toNatClampNeg).toNatClampNeg)).toInt64))), (3, .long (y3 + ((gI ι y2 (gI ι 7 y7.toNatClampNeg).toNatClampNeg)).toInt64)), (8, .long ((gI ι y2 (gI ι 7 y7.toNatClampNeg).toNatClampNeg)).toInt64), (0, .ref (ad 0)), (1, .int y1), (2, .ref (ad y2))]) hx hb dX6_size_80 hl (k := 6) rfl rfl (by decide) rfl (fun ls hl => ?_)
      refine lv_goto (tgt := 38) hx hb dX6_size_83 (by decide) ?_
      exact ih (y1) (y2) ((y3 + ((gI ι y2 (gI ι 7 y7.toNatClampNeg).toNatClampNeg)).toInt64)) ((y5 + (((gI ι y2 (gI ι 7 y7.toNatClampNeg).toNatClampNeg)).toInt64 * ((gI ι y2 (gI ι 7 y7.toNatClampNeg).toNatClampNeg)).toInt64))) ((y7 + 1)) hky2 hM hw (lv_sub hl [4, 5, 6, 2, 1, 0] rfl)
theorem k_X6_size : aCal RX6 yX6_size cX6_size 10 (some .long) 1 := ⟨wI_yX6_size, wE_yX6_size, wZ_X6, wC_yX6_size, by decide +kernel⟩
set_option maxHeartbeats 400000 in
set_option maxRecDepth 100000 in
theorem c_X6_size (l : Launch) (hst : l.stackTraces = false) {x1 : Int32} {ι : iS} {res : (Nat × iS) ⊕ (Int64 × iS)} (hM : m_X6_size x1 ι = some res) : aMx l yX6_size cX6_size 10 (some .long) fx_X6_size wx_X6_size (fun ad => [.ref (ad 0), .int x1]) (aG ι) (xol res) := by
  refine aMx.of (by decide) (fun _ => Nat.le_of_ble_eq_true rfl) ?_
  intro p e s m args below meth c D dA ad adV A ls C hw hl hout
  have C : aX p m c cX6_size 10 s args aTs RX6 meth (some .long) := C
  have hx := C.1.1
  have hb := C.1.2.1
  have hml := C.1.2.2.1
  have hown := C.1.2.2.2.1
  have hts := C.1.2.2.2.2
  have hl : lv_has ls 10 [(0, .ref (ad 0)), (1, .int x1)] := hl
  unfold m_X6_size at hM
  refine lv_aload_n hx hb dX6_size_0 rfl (lv_at hl 0 rfl) ?_
  refine lv_iload_n hx hb dX6_size_1 rfl (lv_at hl 1 rfl) ?_
  refine lv_iconst (v := (0 : Int32)) hx hb dX6_size_2 (by decide) ?_
  refine lv_iconst (v := (3 : Int32)) hx hb dX6_size_3 (by decide) ?_
  obtain ⟨r4, hr4, hM⟩ := h_b hM
  cases r4 with
  | inl r4t =>
    replace hM : some (Sum.inl r4t) = some res := hM
    cases h_e hM
    have q9 := c_X6_needRange l hst hr4
    exact x_callT (σ' := aG r4t.2) (E := aEx r4t.1) (As := fun ad => [.int x1, .int (0 : Int32), .int (3 : Int32)]) (rest := []) (ob := 0) C hw hout q9 k_X6_needRange wM_X6_91 ⟨Nat.le_of_ble_eq_true rfl, Nat.le_of_ble_eq_true rfl⟩ rfl (by decide) rfl rfl rfl hl rfl (Nat.le_of_ble_eq_true rfl) dX6_size_4
  | inr r4n =>
    replace hM : (if (2 : Int32) ≤ x1 then l_X6_size_38 aF x1 8 (0 : Int64) (0 : Int64) (0 : Int32) r4n else l_X6_size_38 aF x1 9 (0 : Int64) (0 : Int64) (0 : Int32) r4n) = some res := hM
    have q9 := c_X6_needRange l hst hr4
    refine x_callN (σ' := aG r4n) (v := none) (As := fun ad => [.int x1, .int (0 : Int32), .int (3 : Int32)]) (rest := []) (ob := 0) C hw q9 k_X6_needRange wM_X6_91 ⟨Nat.le_of_ble_eq_true rfl, Nat.le_of_ble_eq_true rfl⟩ rfl (by decide) rfl rfl rfl hl rfl (Nat.le_of_ble_eq_true rfl) dX6_size_4 ⟨Nat.zero_le _, Nat.zero_le _⟩ (fun H locs hw => ?_)
    refine lv_iload_n hx hb dX6_size_7 rfl (lv_at hl 1 rfl) ?_
    refine lv_iconst (v := (2 : Int32)) hx hb dX6_size_8 (by decide) ?_
    refine lv_icmp_ge (tgt := 22) hx hb dX6_size_9 (by decide) (fun hc => ?_) (fun hc => ?_)
    · replace hM := h_t hc hM
      refine lv_aload_n hx hb dX6_size_22 rfl (lv_at hl 0 rfl) ?_
      refine a_getp (q := 2) (σ := aG r4n) (o := 0) (T := TX6) (N := 11) C wU_X6 hw rfl (by decide) rfl 2 (by decide) rfl wF_X6_20 (aG_P rfl rfl) dX6_size_23 ?_
      refine a_getp (q := 8) (σ := aG r4n) (o := 2) (T := TX2) (N := 11) C wU_X2 hw (aLin_k lin2).1 (by decide) rfl 8 (by decide) rfl wF_X6_144 (aLin_p lin2 r4n 5 (by decide)) dX6_size_26 ?_
      refine lv_astore_n (lv' := [(2, .ref (ad 8)), (0, .ref (ad 0)), (1, .int x1)]) hx hb dX6_size_29 rfl hl (by decide) rfl (fun ls hl => ?_)
      refine lv_lconst (v := (0 : Int64)) hx hb dX6_size_30 (by decide) ?_
      refine lv_lstore_n (lv' := [(3, .long (0 : Int64)), (2, .ref (ad 8)), (0, .ref (ad 0)), (1, .int x1)]) hx hb dX6_size_31 rfl hl (by decide) rfl (fun ls hl => ?_)
      refine lv_lconst (v := (0 : Int64)) hx hb dX6_size_32 (by decide) ?_
      refine lv_lstore (lv' := [(5, .long (0 : Int64)), (3, .long (0 : Int64)), (2, .ref (ad 8)), (0, .ref (ad 0)), (1, .int x1)]) hx hb dX6_size_33 hl (by decide) rfl (fun ls hl => ?_)
      refine lv_iconst (v := (0 : Int32)) hx hb dX6_size_35 (by decide) ?_
      refine lv_istore (lv' := [(7, .int (0 : Int32)), (5, .long (0 : Int64)), (3, .long (0 : Int64)), (2, .ref (ad 8)), (0, .ref (ad 0)), (1, .int x1)]) hx hb dX6_size_36 hl (by decide) rfl (fun ls hl => ?_)
      exact tl_X6_size_38 l C hout hst aF (x1) (8) ((0 : Int64)) ((0 : Int64)) ((0 : Int32)) rfl hM hw (lv_sub hl [4, 5, 3, 2, 1, 0] rfl)
    · replace hM := h_f hc hM
      refine lv_aload_n hx hb dX6_size_12 rfl (lv_at hl 0 rfl) ?_
      refine a_getp (q := 2) (σ := aG r4n) (o := 0) (T := TX6) (N := 11) C wU_X6 hw rfl (by decide) rfl 2 (by decide) rfl wF_X6_20 (aG_P rfl rfl) dX6_size_13 ?_
      refine a_getp (q := 9) (σ := aG r4n) (o := 2) (T := TX2) (N := 11) C wU_X2 hw (aLin_k lin2).1 (by decide) rfl 9 (by decide) rfl wF_X6_184 (aLin_p lin2 r4n 6 (by decide)) dX6_size_16 ?_
      refine lv_goto (tgt := 29) hx hb dX6_size_19 (by decide) ?_
      refine lv_astore_n (lv' := [(2, .ref (ad 9)), (0, .ref (ad 0)), (1, .int x1)]) hx hb dX6_size_29 rfl hl (by decide) rfl (fun ls hl => ?_)
      refine lv_lconst (v := (0 : Int64)) hx hb dX6_size_30 (by decide) ?_
      refine lv_lstore_n (lv' := [(3, .long (0 : Int64)), (2, .ref (ad 9)), (0, .ref (ad 0)), (1, .int x1)]) hx hb dX6_size_31 rfl hl (by decide) rfl (fun ls hl => ?_)
      refine lv_lconst (v := (0 : Int64)) hx hb dX6_size_32 (by decide) ?_
      refine lv_lstore (lv' := [(5, .long (0 : Int64)), (3, .long (0 : Int64)), (2, .ref (ad 9)), (0, .ref (ad 0)), (1, .int x1)]) hx hb dX6_size_33 hl (by decide) rfl (fun ls hl => ?_)
      refine lv_iconst (v := (0 : Int32)) hx hb dX6_size_35 (by decide) ?_
      refine lv_istore (lv' := [(7, .int (0 : Int32)), (5, .long (0 : Int64)), (3, .long (0 : Int64)), (2, .ref (ad 9)), (0, .ref (ad 0)), (1, .int x1)]) hx hb dX6_size_36 hl (by decide) rfl (fun ls hl => ?_)
      exact tl_X6_size_38 l C hout hst aF (x1) (9) ((0 : Int64)) ((0 : Int64)) ((0 : Int32)) rfl hM hw (lv_sub hl [4, 5, 3, 2, 1, 0] rfl)
def fx_X6_odds : Nat := 7
def wx_X6_odds : Nat := 144
theorem k_X6_odds : aCal RX6 yX6_odds cX6_odds 14 (some .long) 4 := ⟨wI_yX6_odds, wE_yX6_odds, wZ_X6, wC_yX6_odds, by decide +kernel⟩
set_option maxHeartbeats 400000 in
set_option maxRecDepth 100000 in
theorem c_X6_odds (l : Launch) (hst : l.stackTraces = false) {x1 : Int32} {x2 : Int32} {x3 : Int32} {x4 : Int32} {ι : iS} {res : (Nat × iS) ⊕ (Int64 × iS)} (hM : m_X6_odds x1 x2 x3 x4 ι = some res) : aMx l yX6_odds cX6_odds 14 (some .long) fx_X6_odds wx_X6_odds (fun ad => [.ref (ad 0), .int x1, .int x2, .int x3, .int x4]) (aG ι) (xol res) := by
  refine aMx.of (by decide) (fun _ => Nat.le_of_ble_eq_true rfl) ?_
  intro p e s m args below meth c D dA ad adV A ls C hw hl hout
  have C : aX p m c cX6_odds 14 s args aTs RX6 meth (some .long) := C
  have hx := C.1.1
  have hb := C.1.2.1
  have hml := C.1.2.2.1
  have hown := C.1.2.2.2.1
  have hts := C.1.2.2.2.2
  have hl : lv_has ls 14 [(0, .ref (ad 0)), (1, .int x1), (2, .int x2), (3, .int x3), (4, .int x4)] := hl
  unfold m_X6_odds at hM
  refine lv_aload_n hx hb dX6_odds_0 rfl (lv_at hl 0 rfl) ?_
  refine lv_iload_n hx hb dX6_odds_1 rfl (lv_at hl 1 rfl) ?_
  refine lv_iconst (v := (0 : Int32)) hx hb dX6_odds_2 (by decide) ?_
  refine lv_iconst (v := (1 : Int32)) hx hb dX6_odds_3 (by decide) ?_
  obtain ⟨r4, hr4, hM⟩ := h_b hM
  cases r4 with
  | inl r4t =>
    replace hM : some (Sum.inl r4t) = some res := hM
    cases h_e hM
    have q9 := c_X6_needRange l hst hr4
    exact x_callT (σ' := aG r4t.2) (E := aEx r4t.1) (As := fun ad => [.int x1, .int (0 : Int32), .int (1 : Int32)]) (rest := []) (ob := 0) C hw hout q9 k_X6_needRange wM_X6_91 ⟨Nat.le_of_ble_eq_true rfl, Nat.le_of_ble_eq_true rfl⟩ rfl (by decide) rfl rfl rfl hl rfl (Nat.le_of_ble_eq_true rfl) dX6_odds_4
  | inr r4n =>
    replace hM : (Option.bind (m_X6_needRange x4 (0 : Int32) (1 : Int32) r4n) fun r12 => match r12 with | .inl r12t => some (.inl r12t) | .inr r12n => Option.bind (m_X2_placeOf 2 (0 : Int32) r12n) fun r20 => if r20.1 = (-1 : Int32) then Option.bind (m_X6_needState (0 : Int32) r20.2) fun r37 => match r37 with | .inl r37t => some (.inl r37t) | .inr r37n => Option.bind (m_X5_look 31 2 (1 : Int32) x2 r37n) fun r50 => Option.bind (m_X5_look 33 2 (0 : Int32) x2 r50) fun r63 => Option.bind (m_X5_casesOf 31 x1 r20.1 r63) fun r73 => Option.bind (m_X5_casesOf 33 x1 r20.1 r73.2) fun r85 => if x3 = 0 then Option.bind (m_X5_allCases 31 r85.2) fun r98 => Option.bind (m_X5_allCases 33 r98.2) fun r110 => Option.bind (m_X6_partOfFraction (((gI r110.2 6 3)).toInt64 * (r98.1 - r73.1)) ((((gI r110.2 6 3)).toInt64 * (r98.1 - r73.1)) + (((100 : Int64) - ((gI r110.2 6 3)).toInt64) * (r110.1 - r85.1))) x4 r110.2) fun r153 => some (.inr (r153.1, r153.2)) else Option.bind (m_X6_partOfFraction (((gI r85.2 6 3)).toInt64 * r73.1) ((((gI r85.2 6 3)).toInt64 * r73.1) + (((100 : Int64) - ((gI r85.2 6 3)).toInt64) * r85.1)) x4 r85.2) fun r153 => some (.inr (r153.1, r153.2)) else Option.bind (m_X6_needState (1 : Int32) r20.2) fun r37 => match r37 with | .inl r37t => some (.inl r37t) | .inr r37n => Option.bind (m_X5_look 31 2 (1 : Int32) x2 r37n) fun r50 => Option.bind (m_X5_look 33 2 (0 : Int32) x2 r50) fun r63 => Option.bind (m_X5_casesOf 31 x1 r20.1 r63) fun r73 => Option.bind (m_X5_casesOf 33 x1 r20.1 r73.2) fun r85 => if x3 = 0 then Option.bind (m_X5_allCases 31 r85.2) fun r98 => Option.bind (m_X5_allCases 33 r98.2) fun r110 => Option.bind (m_X6_partOfFraction (((gI r110.2 6 3)).toInt64 * (r98.1 - r73.1)) ((((gI r110.2 6 3)).toInt64 * (r98.1 - r73.1)) + (((100 : Int64) - ((gI r110.2 6 3)).toInt64) * (r110.1 - r85.1))) x4 r110.2) fun r153 => some (.inr (r153.1, r153.2)) else Option.bind (m_X6_partOfFraction (((gI r85.2 6 3)).toInt64 * r73.1) ((((gI r85.2 6 3)).toInt64 * r73.1) + (((100 : Int64) - ((gI r85.2 6 3)).toInt64) * r85.1)) x4 r85.2) fun r153 => some (.inr (r153.1, r153.2))) = some res := hM
    have q9 := c_X6_needRange l hst hr4
    refine x_callN (σ' := aG r4n) (v := none) (As := fun ad => [.int x1, .int (0 : Int32), .int (1 : Int32)]) (rest := []) (ob := 0) C hw q9 k_X6_needRange wM_X6_91 ⟨Nat.le_of_ble_eq_true rfl, Nat.le_of_ble_eq_true rfl⟩ rfl (by decide) rfl rfl rfl hl rfl (Nat.le_of_ble_eq_true rfl) dX6_odds_4 ⟨Nat.zero_le _, Nat.zero_le _⟩ (fun H locs hw => ?_)
    refine lv_aload_n hx hb dX6_odds_7 rfl (lv_at hl 0 rfl) ?_
    refine lv_iload hx hb dX6_odds_8 (lv_at hl 4 rfl) ?_
    refine lv_iconst (v := (0 : Int32)) hx hb dX6_odds_10 (by decide) ?_
    refine lv_iconst (v := (1 : Int32)) hx hb dX6_odds_11 (by decide) ?_
    obtain ⟨r12, hr12, hM⟩ := h_b hM
    cases r12 with
    | inl r12t =>
      replace hM : some (Sum.inl r12t) = some res := hM
      cases h_e hM
      have q9 := c_X6_needRange l hst hr12
      exact x_callT (σ' := aG r12t.2) (E := aEx r12t.1) (As := fun ad => [.int x4, .int (0 : Int32), .int (1 : Int32)]) (rest := []) (ob := 0) C hw hout q9 k_X6_needRange wM_X6_91 ⟨Nat.le_of_ble_eq_true rfl, Nat.le_of_ble_eq_true rfl⟩ rfl (by decide) rfl rfl rfl hl rfl (Nat.le_of_ble_eq_true rfl) dX6_odds_12
    | inr r12n =>
      replace hM : (Option.bind (m_X2_placeOf 2 (0 : Int32) r12n) fun r20 => if r20.1 = (-1 : Int32) then Option.bind (m_X6_needState (0 : Int32) r20.2) fun r37 => match r37 with | .inl r37t => some (.inl r37t) | .inr r37n => Option.bind (m_X5_look 31 2 (1 : Int32) x2 r37n) fun r50 => Option.bind (m_X5_look 33 2 (0 : Int32) x2 r50) fun r63 => Option.bind (m_X5_casesOf 31 x1 r20.1 r63) fun r73 => Option.bind (m_X5_casesOf 33 x1 r20.1 r73.2) fun r85 => if x3 = 0 then Option.bind (m_X5_allCases 31 r85.2) fun r98 => Option.bind (m_X5_allCases 33 r98.2) fun r110 => Option.bind (m_X6_partOfFraction (((gI r110.2 6 3)).toInt64 * (r98.1 - r73.1)) ((((gI r110.2 6 3)).toInt64 * (r98.1 - r73.1)) + (((100 : Int64) - ((gI r110.2 6 3)).toInt64) * (r110.1 - r85.1))) x4 r110.2) fun r153 => some (.inr (r153.1, r153.2)) else Option.bind (m_X6_partOfFraction (((gI r85.2 6 3)).toInt64 * r73.1) ((((gI r85.2 6 3)).toInt64 * r73.1) + (((100 : Int64) - ((gI r85.2 6 3)).toInt64) * r85.1)) x4 r85.2) fun r153 => some (.inr (r153.1, r153.2)) else Option.bind (m_X6_needState (1 : Int32) r20.2) fun r37 => match r37 with | .inl r37t => some (.inl r37t) | .inr r37n => Option.bind (m_X5_look 31 2 (1 : Int32) x2 r37n) fun r50 => Option.bind (m_X5_look 33 2 (0 : Int32) x2 r50) fun r63 => Option.bind (m_X5_casesOf 31 x1 r20.1 r63) fun r73 => Option.bind (m_X5_casesOf 33 x1 r20.1 r73.2) fun r85 => if x3 = 0 then Option.bind (m_X5_allCases 31 r85.2) fun r98 => Option.bind (m_X5_allCases 33 r98.2) fun r110 => Option.bind (m_X6_partOfFraction (((gI r110.2 6 3)).toInt64 * (r98.1 - r73.1)) ((((gI r110.2 6 3)).toInt64 * (r98.1 - r73.1)) + (((100 : Int64) - ((gI r110.2 6 3)).toInt64) * (r110.1 - r85.1))) x4 r110.2) fun r153 => some (.inr (r153.1, r153.2)) else Option.bind (m_X6_partOfFraction (((gI r85.2 6 3)).toInt64 * r73.1) ((((gI r85.2 6 3)).toInt64 * r73.1) + (((100 : Int64) - ((gI r85.2 6 3)).toInt64) * r85.1)) x4 r85.2) fun r153 => some (.inr (r153.1, r153.2))) = some res := hM
      have q9 := c_X6_needRange l hst hr12
      refine x_callN (σ' := aG r12n) (v := none) (As := fun ad => [.int x4, .int (0 : Int32), .int (1 : Int32)]) (rest := []) (ob := 0) C hw q9 k_X6_needRange wM_X6_91 ⟨Nat.le_of_ble_eq_true rfl, Nat.le_of_ble_eq_true rfl⟩ rfl (by decide) rfl rfl rfl hl rfl (Nat.le_of_ble_eq_true rfl) dX6_odds_12 ⟨Nat.zero_le _, Nat.zero_le _⟩ (fun H locs hw => ?_)
      refine lv_aload_n hx hb dX6_odds_15 rfl (lv_at hl 0 rfl) ?_
      refine a_getp (q := 2) (σ := aG r12n) (o := 0) (T := TX6) (N := 11) C wU_X6 hw rfl (by decide) rfl 2 (by decide) rfl wF_X6_20 (aG_P rfl rfl) dX6_odds_16 ?_
      refine lv_iconst (v := (0 : Int32)) hx hb dX6_odds_19 (by decide) ?_
      obtain ⟨r20, hr20, hM⟩ := h_b hM
      refine a_callV (σ' := aG r20.2) (v := (some (.int r20.1))) (As := fun ad => [.int (0 : Int32)]) (rest := []) (o := 2) C hw (c_X2_placeOf l (lin2) hr20) k_X2_placeOf wM_X6_115 ⟨⟨rfl, rfl⟩, ⟨Nat.le_of_ble_eq_true rfl, Nat.le_of_ble_eq_true rfl⟩⟩ (aLin_k lin2).1 (by decide) rfl rfl rfl hl rfl (Nat.le_of_ble_eq_true rfl) dX6_odds_20 ⟨Nat.zero_le _, Nat.zero_le _⟩ (fun H locs hw => ?_)
      refine lv_istore (lv' := [(5, .int r20.1), (0, .ref (ad 0)), (1, .int x1), (2, .int x2), (3, .int x3), (4, .int x4)]) hx hb dX6_odds_23 hl (by decide) rfl (fun ls hl => ?_)
      refine lv_aload_n hx hb dX6_odds_25 rfl (lv_at hl 1 rfl) ?_
      refine lv_iload hx hb dX6_odds_26 (lv_at hl 0 rfl) ?_
      refine lv_iconst (v := (-1 : Int32)) hx hb dX6_odds_28 (by decide) ?_
      refine lv_icmp_eq (tgt := 36) hx hb dX6_odds_29 (by decide) (fun hc => ?_) (fun hc => ?_)
      · replace hM := h_t hc hM
        refine lv_iconst (v := (0 : Int32)) hx hb dX6_odds_36 (by decide) ?_
        obtain ⟨r37, hr37, hM⟩ := h_b hM
        cases r37 with
        | inl r37t =>
          replace hM : some (Sum.inl r37t) = some res := hM
          cases h_e hM
          have q9 := c_X6_needState l hst hr37
          exact x_callT (σ' := aG r37t.2) (E := aEx r37t.1) (As := fun ad => [.int (0 : Int32)]) (rest := []) (ob := 0) C hw hout q9 k_X6_needState wM_X6_122 ⟨Nat.le_of_ble_eq_true rfl, Nat.le_of_ble_eq_true rfl⟩ rfl (by decide) rfl rfl rfl hl rfl (Nat.le_of_ble_eq_true rfl) dX6_odds_37
        | inr r37n =>
          replace hM : (Option.bind (m_X5_look 31 2 (1 : Int32) x2 r37n) fun r50 => Option.bind (m_X5_look 33 2 (0 : Int32) x2 r50) fun r63 => Option.bind (m_X5_casesOf 31 x1 r20.1 r63) fun r73 => Option.bind (m_X5_casesOf 33 x1 r20.1 r73.2) fun r85 => if x3 = 0 then Option.bind (m_X5_allCases 31 r85.2) fun r98 => Option.bind (m_X5_allCases 33 r98.2) fun r110 => Option.bind (m_X6_partOfFraction (((gI r110.2 6 3)).toInt64 * (r98.1 - r73.1)) ((((gI r110.2 6 3)).toInt64 * (r98.1 - r73.1)) + (((100 : Int64) - ((gI r110.2 6 3)).toInt64) * (r110.1 - r85.1))) x4 r110.2) fun r153 => some (.inr (r153.1, r153.2)) else Option.bind (m_X6_partOfFraction (((gI r85.2 6 3)).toInt64 * r73.1) ((((gI r85.2 6 3)).toInt64 * r73.1) + (((100 : Int64) - ((gI r85.2 6 3)).toInt64) * r85.1)) x4 r85.2) fun r153 => some (.inr (r153.1, r153.2))) = some res := hM
          have q9 := c_X6_needState l hst hr37
          refine x_callN (σ' := aG r37n) (v := none) (As := fun ad => [.int (0 : Int32)]) (rest := []) (ob := 0) C hw q9 k_X6_needState wM_X6_122 ⟨Nat.le_of_ble_eq_true rfl, Nat.le_of_ble_eq_true rfl⟩ rfl (by decide) rfl rfl rfl hl rfl (Nat.le_of_ble_eq_true rfl) dX6_odds_37 ⟨Nat.zero_le _, Nat.zero_le _⟩ (fun H locs hw => ?_)
          refine lv_aload_n hx hb dX6_odds_40 rfl (lv_at hl 1 rfl) ?_
          refine a_getp (q := 31) (σ := aG r37n) (o := 0) (T := TX6) (N := 11) C wU_X6 hw rfl (by decide) rfl 8 (by decide) rfl wF_X6_48 (aG_P rfl rfl) dX6_odds_41 ?_
          refine lv_aload_n hx hb dX6_odds_44 rfl (lv_at hl 1 rfl) ?_
          refine a_getp (q := 2) (σ := aG r37n) (o := 0) (T := TX6) (N := 11) C wU_X6 hw rfl (by decide) rfl 2 (by decide) rfl wF_X6_20 (aG_P rfl rfl) dX6_odds_45 ?_
          refine lv_iconst (v := (1 : Int32)) hx hb dX6_odds_48 (by decide) ?_
          refine lv_iload_n hx hb dX6_odds_49 rfl (lv_at hl 3 rfl) ?_
          obtain ⟨r50, hr50, hM⟩ := h_b hM
          refine a_callV (σ' := aG r50) (v := none) (As := fun ad => [.ref (ad 2), .int (1 : Int32), .int x2]) (rest := []) (o := 31) C hw (c_X5_look l (wit31) (lin2) hr50) k_X5_look wM_X6_165 ⟨⟨rfl, rfl⟩, ⟨Nat.le_of_ble_eq_true rfl, Nat.le_of_ble_eq_true rfl⟩⟩ (aWit_k wit31).1 (by decide) rfl rfl rfl hl rfl (Nat.le_of_ble_eq_true rfl) dX6_odds_50 ⟨Nat.zero_le _, Nat.zero_le _⟩ (fun H locs hw => ?_)
          refine lv_aload_n hx hb dX6_odds_53 rfl (lv_at hl 1 rfl) ?_
          refine a_getp (q := 33) (σ := aG r50) (o := 0) (T := TX6) (N := 11) C wU_X6 hw rfl (by decide) rfl 9 (by decide) rfl wF_X6_52 (aG_P rfl rfl) dX6_odds_54 ?_
          refine lv_aload_n hx hb dX6_odds_57 rfl (lv_at hl 1 rfl) ?_
          refine a_getp (q := 2) (σ := aG r50) (o := 0) (T := TX6) (N := 11) C wU_X6 hw rfl (by decide) rfl 2 (by decide) rfl wF_X6_20 (aG_P rfl rfl) dX6_odds_58 ?_
          refine lv_iconst (v := (0 : Int32)) hx hb dX6_odds_61 (by decide) ?_
          refine lv_iload_n hx hb dX6_odds_62 rfl (lv_at hl 3 rfl) ?_
          obtain ⟨r63, hr63, hM⟩ := h_b hM
          refine a_callV (σ' := aG r63) (v := none) (As := fun ad => [.ref (ad 2), .int (0 : Int32), .int x2]) (rest := []) (o := 33) C hw (c_X5_look l (wit33) (lin2) hr63) k_X5_look wM_X6_165 ⟨⟨rfl, rfl⟩, ⟨Nat.le_of_ble_eq_true rfl, Nat.le_of_ble_eq_true rfl⟩⟩ (aWit_k wit33).1 (by decide) rfl rfl rfl hl rfl (Nat.le_of_ble_eq_true rfl) dX6_odds_63 ⟨Nat.zero_le _, Nat.zero_le _⟩ (fun H locs hw => ?_)
          refine lv_aload_n hx hb dX6_odds_66 rfl (lv_at hl 1 rfl) ?_
          refine a_getp (q := 31) (σ := aG r63) (o := 0) (T := TX6) (N := 11) C wU_X6 hw rfl (by decide) rfl 8 (by decide) rfl wF_X6_48 (aG_P rfl rfl) dX6_odds_67 ?_
          refine lv_iload_n hx hb dX6_odds_70 rfl (lv_at hl 2 rfl) ?_
          refine lv_iload hx hb dX6_odds_71 (lv_at hl 0 rfl) ?_
          obtain ⟨r73, hr73, hM⟩ := h_b hM
          refine a_callV (σ' := aG r73.2) (v := (some (.long r73.1))) (As := fun ad => [.int x1, .int r20.1]) (rest := []) (o := 31) C hw (c_X5_casesOf l (wit31) hr73) k_X5_casesOf wM_X6_180 ⟨⟨rfl, rfl⟩, ⟨Nat.le_of_ble_eq_true rfl, Nat.le_of_ble_eq_true rfl⟩⟩ (aWit_k wit31).1 (by decide) rfl rfl rfl hl rfl (Nat.le_of_ble_eq_true rfl) dX6_odds_73 ⟨Nat.zero_le _, Nat.zero_le _⟩ (fun H locs hw => ?_)
          refine lv_lstore (lv' := [(6, .long r73.1), (5, .int r20.1), (0, .ref (ad 0)), (1, .int x1), (2, .int x2), (3, .int x3), (4, .int x4)]) hx hb dX6_odds_76 hl (by decide) rfl (fun ls hl => ?_)
          refine lv_aload_n hx hb dX6_odds_78 rfl (lv_at hl 2 rfl) ?_
          refine a_getp (q := 33) (σ := aG r73.2) (o := 0) (T := TX6) (N := 11) C wU_X6 hw rfl (by decide) rfl 9 (by decide) rfl wF_X6_52 (aG_P rfl rfl) dX6_odds_79 ?_
          refine lv_iload_n hx hb dX6_odds_82 rfl (lv_at hl 3 rfl) ?_
          refine lv_iload hx hb dX6_odds_83 (lv_at hl 1 rfl) ?_
          obtain ⟨r85, hr85, hM⟩ := h_b hM
          refine a_callV (σ' := aG r85.2) (v := (some (.long r85.1))) (As := fun ad => [.int x1, .int r20.1]) (rest := []) (o := 33) C hw (c_X5_casesOf l (wit33) hr85) k_X5_casesOf wM_X6_180 ⟨⟨rfl, rfl⟩, ⟨Nat.le_of_ble_eq_true rfl, Nat.le_of_ble_eq_true rfl⟩⟩ (aWit_k wit33).1 (by decide) rfl rfl rfl hl rfl (Nat.le_of_ble_eq_true rfl) dX6_odds_85 ⟨Nat.zero_le _, Nat.zero_le _⟩ (fun H locs hw => ?_)
          refine lv_lstore (lv' := [(8, .long r85.1), (6, .long r73.1), (5, .int r20.1), (0, .ref (ad 0)), (1, .int x1), (2, .int x2), (3, .int x3), (4, .int x4)]) hx hb dX6_odds_88 hl (by decide) rfl (fun ls hl => ?_)
          refine lv_iload_n hx hb dX6_odds_90 rfl (lv_at hl 6 rfl) ?_
          refine lv_if_ne (tgt := 118) hx hb dX6_odds_91 (by decide) (fun hc => ?_) (fun hc => ?_)
          · replace hM := h_f hc hM
            refine lv_aload_n hx hb dX6_odds_118 rfl (lv_at hl 3 rfl) ?_
            refine a_getp (q := 2) (σ := aG r85.2) (o := 0) (T := TX6) (N := 11) C wU_X6 hw rfl (by decide) rfl 2 (by decide) rfl wF_X6_20 (aG_P rfl rfl) dX6_odds_119 ?_
            refine a_getp (q := 6) (σ := aG r85.2) (o := 2) (T := TX2) (N := 11) C wU_X2 hw (aLin_k lin2).1 (by decide) rfl 6 (by decide) rfl wF_X6_141 (aLin_p lin2 r85.2 3 (by decide)) dX6_odds_122 ?_
            refine lv_iconst (v := (3 : Int32)) hx hb dX6_odds_125 (by decide) ?_
            refine a_iald (σ := aG r85.2) (o := 6) C hw rfl (aIn_v (by decide)) (show (3 : Int32).toNatClampNeg = 3 by decide) dX6_odds_126 ?_
            refine lv_i2l hx hb dX6_odds_127 rfl ?_
            refine lv_lstore (lv' := [(10, .long ((gI r85.2 6 3)).toInt64), (8, .long r85.1), (6, .long r73.1), (5, .int r20.1), (0, .ref (ad 0)), (1, .int x1), (2, .int x2), (3, .int x3), (4, .int x4)]) hx hb dX6_odds_128 hl (by decide) rfl (fun ls hl => ?_)
            refine lv_lload hx hb dX6_odds_130 (lv_at hl 0 rfl) ?_
            refine lv_lload hx hb dX6_odds_132 (lv_at hl 2 rfl) ?_
            refine lv_lmul hx hb dX6_odds_134 ?_
            refine lv_lstore (lv' := [(12, .long (((gI r85.2 6 3)).toInt64 * r73.1)), (10, .long ((gI r85.2 6 3)).toInt64), (8, .long r85.1), (6, .long r73.1), (5, .int r20.1), (0, .ref (ad 0)), (1, .int x1), (2, .int x2), (3, .int x3), (4, .int x4)]) hx hb dX6_odds_135 hl (by decide) rfl (fun ls hl => ?_)
            refine lv_lload hx hb dX6_odds_137 (lv_at hl 0 rfl) ?_
            refine lv_lload hx hb dX6_odds_139 (lv_at hl 0 rfl) ?_
            refine lv_ldc2 (v := (100 : Int64)) hx hb hown (hts _ wQ_X6_203) dX6_odds_141 ?_
            refine lv_lload hx hb dX6_odds_144 (lv_at hl 1 rfl) ?_
            refine lv_lsub hx hb dX6_odds_146 ?_
            refine lv_lload hx hb dX6_odds_147 (lv_at hl 2 rfl) ?_
            refine lv_lmul hx hb dX6_odds_149 ?_
            refine lv_ladd hx hb dX6_odds_150 ?_
            refine lv_iload hx hb dX6_odds_151 (lv_at hl 9 rfl) ?_
            obtain ⟨r153, hr153, hM⟩ := h_b hM
            refine a_callS  (σ' := aG r153.2) (v := (some (.long r153.1))) (as := fun ad => [.long (((gI r85.2 6 3)).toInt64 * r73.1), .long ((((gI r85.2 6 3)).toInt64 * r73.1) + (((100 : Int64) - ((gI r85.2 6 3)).toInt64) * r85.1)), .int x4]) (rest := []) C hw (c_X6_partOfFraction l hr153) k_X6_partOfFraction wM_X6_176 ⟨⟨rfl, rfl⟩, ⟨Nat.le_of_ble_eq_true rfl, Nat.le_of_ble_eq_true rfl⟩⟩ rfl hl rfl (Nat.le_of_ble_eq_true rfl) dX6_odds_153 ⟨Nat.zero_le _, Nat.zero_le _⟩ (fun H locs hw => ?_)
            cases h_e hM
            exact x_lret C hw dX6_odds_156
          · replace hM := h_t hc hM
            refine lv_aload_n hx hb dX6_odds_94 rfl (lv_at hl 3 rfl) ?_
            refine a_getp (q := 31) (σ := aG r85.2) (o := 0) (T := TX6) (N := 11) C wU_X6 hw rfl (by decide) rfl 8 (by decide) rfl wF_X6_48 (aG_P rfl rfl) dX6_odds_95 ?_
            obtain ⟨r98, hr98, hM⟩ := h_b hM
            refine a_callV (σ' := aG r98.2) (v := (some (.long r98.1))) (As := fun ad => []) (rest := []) (o := 31) C hw (c_X5_allCases l (wit31) hr98) k_X5_allCases wM_X6_173 ⟨⟨rfl, rfl⟩, ⟨Nat.le_of_ble_eq_true rfl, Nat.le_of_ble_eq_true rfl⟩⟩ (aWit_k wit31).1 (by decide) rfl rfl rfl hl rfl (Nat.le_of_ble_eq_true rfl) dX6_odds_98 ⟨Nat.zero_le _, Nat.zero_le _⟩ (fun H locs hw => ?_)
            refine lv_lload hx hb dX6_odds_101 (lv_at hl 1 rfl) ?_
            refine lv_lsub hx hb dX6_odds_103 ?_
            refine lv_lstore (lv' := [(6, .long (r98.1 - r73.1)), (8, .long r85.1), (5, .int r20.1), (0, .ref (ad 0)), (1, .int x1), (2, .int x2), (3, .int x3), (4, .int x4)]) hx hb dX6_odds_104 hl (by decide) rfl (fun ls hl => ?_)
            refine lv_aload_n hx hb dX6_odds_106 rfl (lv_at hl 3 rfl) ?_
            refine a_getp (q := 33) (σ := aG r98.2) (o := 0) (T := TX6) (N := 11) C wU_X6 hw rfl (by decide) rfl 9 (by decide) rfl wF_X6_52 (aG_P rfl rfl) dX6_odds_107 ?_
            obtain ⟨r110, hr110, hM⟩ := h_b hM
            refine a_callV (σ' := aG r110.2) (v := (some (.long r110.1))) (As := fun ad => []) (rest := []) (o := 33) C hw (c_X5_allCases l (wit33) hr110) k_X5_allCases wM_X6_173 ⟨⟨rfl, rfl⟩, ⟨Nat.le_of_ble_eq_true rfl, Nat.le_of_ble_eq_true rfl⟩⟩ (aWit_k wit33).1 (by decide) rfl rfl rfl hl rfl (Nat.le_of_ble_eq_true rfl) dX6_odds_110 ⟨Nat.zero_le _, Nat.zero_le _⟩ (fun H locs hw => ?_)
            refine lv_lload hx hb dX6_odds_113 (lv_at hl 1 rfl) ?_
            refine lv_lsub hx hb dX6_odds_115 ?_
            refine lv_lstore (lv' := [(8, .long (r110.1 - r85.1)), (6, .long (r98.1 - r73.1)), (5, .int r20.1), (0, .ref (ad 0)), (1, .int x1), (2, .int x2), (3, .int x3), (4, .int x4)]) hx hb dX6_odds_116 hl (by decide) rfl (fun ls hl => ?_)
            refine lv_aload_n hx hb dX6_odds_118 rfl (lv_at hl 3 rfl) ?_
            refine a_getp (q := 2) (σ := aG r110.2) (o := 0) (T := TX6) (N := 11) C wU_X6 hw rfl (by decide) rfl 2 (by decide) rfl wF_X6_20 (aG_P rfl rfl) dX6_odds_119 ?_
            refine a_getp (q := 6) (σ := aG r110.2) (o := 2) (T := TX2) (N := 11) C wU_X2 hw (aLin_k lin2).1 (by decide) rfl 6 (by decide) rfl wF_X6_141 (aLin_p lin2 r110.2 3 (by decide)) dX6_odds_122 ?_
            refine lv_iconst (v := (3 : Int32)) hx hb dX6_odds_125 (by decide) ?_
            refine a_iald (σ := aG r110.2) (o := 6) C hw rfl (aIn_v (by decide)) (show (3 : Int32).toNatClampNeg = 3 by decide) dX6_odds_126 ?_
            refine lv_i2l hx hb dX6_odds_127 rfl ?_
            refine lv_lstore (lv' := [(10, .long ((gI r110.2 6 3)).toInt64), (8, .long (r110.1 - r85.1)), (6, .long (r98.1 - r73.1)), (5, .int r20.1), (0, .ref (ad 0)), (1, .int x1), (2, .int x2), (3, .int x3), (4, .int x4)]) hx hb dX6_odds_128 hl (by decide) rfl (fun ls hl => ?_)
            refine lv_lload hx hb dX6_odds_130 (lv_at hl 0 rfl) ?_
            refine lv_lload hx hb dX6_odds_132 (lv_at hl 2 rfl) ?_
            refine lv_lmul hx hb dX6_odds_134 ?_
            refine lv_lstore (lv' := [(12, .long (((gI r110.2 6 3)).toInt64 * (r98.1 - r73.1))), (10, .long ((gI r110.2 6 3)).toInt64), (8, .long (r110.1 - r85.1)), (6, .long (r98.1 - r73.1)), (5, .int r20.1), (0, .ref (ad 0)), (1, .int x1), (2, .int x2), (3, .int x3), (4, .int x4)]) hx hb dX6_odds_135 hl (by decide) rfl (fun ls hl => ?_)
            refine lv_lload hx hb dX6_odds_137 (lv_at hl 0 rfl) ?_
            refine lv_lload hx hb dX6_odds_139 (lv_at hl 0 rfl) ?_
            refine lv_ldc2 (v := (100 : Int64)) hx hb hown (hts _ wQ_X6_203) dX6_odds_141 ?_
            refine lv_lload hx hb dX6_odds_144 (lv_at hl 1 rfl) ?_
            refine lv_lsub hx hb dX6_odds_146 ?_
            refine lv_lload hx hb dX6_odds_147 (lv_at hl 2 rfl) ?_
            refine lv_lmul hx hb dX6_odds_149 ?_
            refine lv_ladd hx hb dX6_odds_150 ?_
            refine lv_iload hx hb dX6_odds_151 (lv_at hl 9 rfl) ?_
            obtain ⟨r153, hr153, hM⟩ := h_b hM
            refine a_callS  (σ' := aG r153.2) (v := (some (.long r153.1))) (as := fun ad => [.long (((gI r110.2 6 3)).toInt64 * (r98.1 - r73.1)), .long ((((gI r110.2 6 3)).toInt64 * (r98.1 - r73.1)) + (((100 : Int64) - ((gI r110.2 6 3)).toInt64) * (r110.1 - r85.1))), .int x4]) (rest := []) C hw (c_X6_partOfFraction l hr153) k_X6_partOfFraction wM_X6_176 ⟨⟨rfl, rfl⟩, ⟨Nat.le_of_ble_eq_true rfl, Nat.le_of_ble_eq_true rfl⟩⟩ rfl hl rfl (Nat.le_of_ble_eq_true rfl) dX6_odds_153 ⟨Nat.zero_le _, Nat.zero_le _⟩ (fun H locs hw => ?_)
            cases h_e hM
            exact x_lret C hw dX6_odds_156
      · replace hM := h_f hc hM
        refine lv_iconst (v := (1 : Int32)) hx hb dX6_odds_32 (by decide) ?_
        refine lv_goto (tgt := 37) hx hb dX6_odds_33 (by decide) ?_
        obtain ⟨r37, hr37, hM⟩ := h_b hM
        cases r37 with
        | inl r37t =>
          replace hM : some (Sum.inl r37t) = some res := hM
          cases h_e hM
          have q9 := c_X6_needState l hst hr37
          exact x_callT (σ' := aG r37t.2) (E := aEx r37t.1) (As := fun ad => [.int (1 : Int32)]) (rest := []) (ob := 0) C hw hout q9 k_X6_needState wM_X6_122 ⟨Nat.le_of_ble_eq_true rfl, Nat.le_of_ble_eq_true rfl⟩ rfl (by decide) rfl rfl rfl hl rfl (Nat.le_of_ble_eq_true rfl) dX6_odds_37
        | inr r37n =>
          replace hM : (Option.bind (m_X5_look 31 2 (1 : Int32) x2 r37n) fun r50 => Option.bind (m_X5_look 33 2 (0 : Int32) x2 r50) fun r63 => Option.bind (m_X5_casesOf 31 x1 r20.1 r63) fun r73 => Option.bind (m_X5_casesOf 33 x1 r20.1 r73.2) fun r85 => if x3 = 0 then Option.bind (m_X5_allCases 31 r85.2) fun r98 => Option.bind (m_X5_allCases 33 r98.2) fun r110 => Option.bind (m_X6_partOfFraction (((gI r110.2 6 3)).toInt64 * (r98.1 - r73.1)) ((((gI r110.2 6 3)).toInt64 * (r98.1 - r73.1)) + (((100 : Int64) - ((gI r110.2 6 3)).toInt64) * (r110.1 - r85.1))) x4 r110.2) fun r153 => some (.inr (r153.1, r153.2)) else Option.bind (m_X6_partOfFraction (((gI r85.2 6 3)).toInt64 * r73.1) ((((gI r85.2 6 3)).toInt64 * r73.1) + (((100 : Int64) - ((gI r85.2 6 3)).toInt64) * r85.1)) x4 r85.2) fun r153 => some (.inr (r153.1, r153.2))) = some res := hM
          have q9 := c_X6_needState l hst hr37
          refine x_callN (σ' := aG r37n) (v := none) (As := fun ad => [.int (1 : Int32)]) (rest := []) (ob := 0) C hw q9 k_X6_needState wM_X6_122 ⟨Nat.le_of_ble_eq_true rfl, Nat.le_of_ble_eq_true rfl⟩ rfl (by decide) rfl rfl rfl hl rfl (Nat.le_of_ble_eq_true rfl) dX6_odds_37 ⟨Nat.zero_le _, Nat.zero_le _⟩ (fun H locs hw => ?_)
          refine lv_aload_n hx hb dX6_odds_40 rfl (lv_at hl 1 rfl) ?_
          refine a_getp (q := 31) (σ := aG r37n) (o := 0) (T := TX6) (N := 11) C wU_X6 hw rfl (by decide) rfl 8 (by decide) rfl wF_X6_48 (aG_P rfl rfl) dX6_odds_41 ?_
          refine lv_aload_n hx hb dX6_odds_44 rfl (lv_at hl 1 rfl) ?_
          refine a_getp (q := 2) (σ := aG r37n) (o := 0) (T := TX6) (N := 11) C wU_X6 hw rfl (by decide) rfl 2 (by decide) rfl wF_X6_20 (aG_P rfl rfl) dX6_odds_45 ?_
          refine lv_iconst (v := (1 : Int32)) hx hb dX6_odds_48 (by decide) ?_
          refine lv_iload_n hx hb dX6_odds_49 rfl (lv_at hl 3 rfl) ?_
          obtain ⟨r50, hr50, hM⟩ := h_b hM
          refine a_callV (σ' := aG r50) (v := none) (As := fun ad => [.ref (ad 2), .int (1 : Int32), .int x2]) (rest := []) (o := 31) C hw (c_X5_look l (wit31) (lin2) hr50) k_X5_look wM_X6_165 ⟨⟨rfl, rfl⟩, ⟨Nat.le_of_ble_eq_true rfl, Nat.le_of_ble_eq_true rfl⟩⟩ (aWit_k wit31).1 (by decide) rfl rfl rfl hl rfl (Nat.le_of_ble_eq_true rfl) dX6_odds_50 ⟨Nat.zero_le _, Nat.zero_le _⟩ (fun H locs hw => ?_)
          refine lv_aload_n hx hb dX6_odds_53 rfl (lv_at hl 1 rfl) ?_
          refine a_getp (q := 33) (σ := aG r50) (o := 0) (T := TX6) (N := 11) C wU_X6 hw rfl (by decide) rfl 9 (by decide) rfl wF_X6_52 (aG_P rfl rfl) dX6_odds_54 ?_
          refine lv_aload_n hx hb dX6_odds_57 rfl (lv_at hl 1 rfl) ?_
          refine a_getp (q := 2) (σ := aG r50) (o := 0) (T := TX6) (N := 11) C wU_X6 hw rfl (by decide) rfl 2 (by decide) rfl wF_X6_20 (aG_P rfl rfl) dX6_odds_58 ?_
          refine lv_iconst (v := (0 : Int32)) hx hb dX6_odds_61 (by decide) ?_
          refine lv_iload_n hx hb dX6_odds_62 rfl (lv_at hl 3 rfl) ?_
          obtain ⟨r63, hr63, hM⟩ := h_b hM
          refine a_callV (σ' := aG r63) (v := none) (As := fun ad => [.ref (ad 2), .int (0 : Int32), .int x2]) (rest := []) (o := 33) C hw (c_X5_look l (wit33) (lin2) hr63) k_X5_look wM_X6_165 ⟨⟨rfl, rfl⟩, ⟨Nat.le_of_ble_eq_true rfl, Nat.le_of_ble_eq_true rfl⟩⟩ (aWit_k wit33).1 (by decide) rfl rfl rfl hl rfl (Nat.le_of_ble_eq_true rfl) dX6_odds_63 ⟨Nat.zero_le _, Nat.zero_le _⟩ (fun H locs hw => ?_)
          refine lv_aload_n hx hb dX6_odds_66 rfl (lv_at hl 1 rfl) ?_
          refine a_getp (q := 31) (σ := aG r63) (o := 0) (T := TX6) (N := 11) C wU_X6 hw rfl (by decide) rfl 8 (by decide) rfl wF_X6_48 (aG_P rfl rfl) dX6_odds_67 ?_
          refine lv_iload_n hx hb dX6_odds_70 rfl (lv_at hl 2 rfl) ?_
          refine lv_iload hx hb dX6_odds_71 (lv_at hl 0 rfl) ?_
          obtain ⟨r73, hr73, hM⟩ := h_b hM
          refine a_callV (σ' := aG r73.2) (v := (some (.long r73.1))) (As := fun ad => [.int x1, .int r20.1]) (rest := []) (o := 31) C hw (c_X5_casesOf l (wit31) hr73) k_X5_casesOf wM_X6_180 ⟨⟨rfl, rfl⟩, ⟨Nat.le_of_ble_eq_true rfl, Nat.le_of_ble_eq_true rfl⟩⟩ (aWit_k wit31).1 (by decide) rfl rfl rfl hl rfl (Nat.le_of_ble_eq_true rfl) dX6_odds_73 ⟨Nat.zero_le _, Nat.zero_le _⟩ (fun H locs hw => ?_)
          refine lv_lstore (lv' := [(6, .long r73.1), (5, .int r20.1), (0, .ref (ad 0)), (1, .int x1), (2, .int x2), (3, .int x3), (4, .int x4)]) hx hb dX6_odds_76 hl (by decide) rfl (fun ls hl => ?_)
          refine lv_aload_n hx hb dX6_odds_78 rfl (lv_at hl 2 rfl) ?_
          refine a_getp (q := 33) (σ := aG r73.2) (o := 0) (T := TX6) (N := 11) C wU_X6 hw rfl (by decide) rfl 9 (by decide) rfl wF_X6_52 (aG_P rfl rfl) dX6_odds_79 ?_
          refine lv_iload_n hx hb dX6_odds_82 rfl (lv_at hl 3 rfl) ?_
          refine lv_iload hx hb dX6_odds_83 (lv_at hl 1 rfl) ?_
          obtain ⟨r85, hr85, hM⟩ := h_b hM
          refine a_callV (σ' := aG r85.2) (v := (some (.long r85.1))) (As := fun ad => [.int x1, .int r20.1]) (rest := []) (o := 33) C hw (c_X5_casesOf l (wit33) hr85) k_X5_casesOf wM_X6_180 ⟨⟨rfl, rfl⟩, ⟨Nat.le_of_ble_eq_true rfl, Nat.le_of_ble_eq_true rfl⟩⟩ (aWit_k wit33).1 (by decide) rfl rfl rfl hl rfl (Nat.le_of_ble_eq_true rfl) dX6_odds_85 ⟨Nat.zero_le _, Nat.zero_le _⟩ (fun H locs hw => ?_)
          refine lv_lstore (lv' := [(8, .long r85.1), (6, .long r73.1), (5, .int r20.1), (0, .ref (ad 0)), (1, .int x1), (2, .int x2), (3, .int x3), (4, .int x4)]) hx hb dX6_odds_88 hl (by decide) rfl (fun ls hl => ?_)
          refine lv_iload_n hx hb dX6_odds_90 rfl (lv_at hl 6 rfl) ?_
          refine lv_if_ne (tgt := 118) hx hb dX6_odds_91 (by decide) (fun hc => ?_) (fun hc => ?_)
          · replace hM := h_f hc hM
            refine lv_aload_n hx hb dX6_odds_118 rfl (lv_at hl 3 rfl) ?_
            refine a_getp (q := 2) (σ := aG r85.2) (o := 0) (T := TX6) (N := 11) C wU_X6 hw rfl (by decide) rfl 2 (by decide) rfl wF_X6_20 (aG_P rfl rfl) dX6_odds_119 ?_
            refine a_getp (q := 6) (σ := aG r85.2) (o := 2) (T := TX2) (N := 11) C wU_X2 hw (aLin_k lin2).1 (by decide) rfl 6 (by decide) rfl wF_X6_141 (aLin_p lin2 r85.2 3 (by decide)) dX6_odds_122 ?_
            refine lv_iconst (v := (3 : Int32)) hx hb dX6_odds_125 (by decide) ?_
            refine a_iald (σ := aG r85.2) (o := 6) C hw rfl (aIn_v (by decide)) (show (3 : Int32).toNatClampNeg = 3 by decide) dX6_odds_126 ?_
            refine lv_i2l hx hb dX6_odds_127 rfl ?_
            refine lv_lstore (lv' := [(10, .long ((gI r85.2 6 3)).toInt64), (8, .long r85.1), (6, .long r73.1), (5, .int r20.1), (0, .ref (ad 0)), (1, .int x1), (2, .int x2), (3, .int x3), (4, .int x4)]) hx hb dX6_odds_128 hl (by decide) rfl (fun ls hl => ?_)
            refine lv_lload hx hb dX6_odds_130 (lv_at hl 0 rfl) ?_
            refine lv_lload hx hb dX6_odds_132 (lv_at hl 2 rfl) ?_
            refine lv_lmul hx hb dX6_odds_134 ?_
            refine lv_lstore (lv' := [(12, .long (((gI r85.2 6 3)).toInt64 * r73.1)), (10, .long ((gI r85.2 6 3)).toInt64), (8, .long r85.1), (6, .long r73.1), (5, .int r20.1), (0, .ref (ad 0)), (1, .int x1), (2, .int x2), (3, .int x3), (4, .int x4)]) hx hb dX6_odds_135 hl (by decide) rfl (fun ls hl => ?_)
            refine lv_lload hx hb dX6_odds_137 (lv_at hl 0 rfl) ?_
            refine lv_lload hx hb dX6_odds_139 (lv_at hl 0 rfl) ?_
            refine lv_ldc2 (v := (100 : Int64)) hx hb hown (hts _ wQ_X6_203) dX6_odds_141 ?_
            refine lv_lload hx hb dX6_odds_144 (lv_at hl 1 rfl) ?_
            refine lv_lsub hx hb dX6_odds_146 ?_
            refine lv_lload hx hb dX6_odds_147 (lv_at hl 2 rfl) ?_
            refine lv_lmul hx hb dX6_odds_149 ?_
            refine lv_ladd hx hb dX6_odds_150 ?_
            refine lv_iload hx hb dX6_odds_151 (lv_at hl 9 rfl) ?_
            obtain ⟨r153, hr153, hM⟩ := h_b hM
            refine a_callS  (σ' := aG r153.2) (v := (some (.long r153.1))) (as := fun ad => [.long (((gI r85.2 6 3)).toInt64 * r73.1), .long ((((gI r85.2 6 3)).toInt64 * r73.1) + (((100 : Int64) - ((gI r85.2 6 3)).toInt64) * r85.1)), .int x4]) (rest := []) C hw (c_X6_partOfFraction l hr153) k_X6_partOfFraction wM_X6_176 ⟨⟨rfl, rfl⟩, ⟨Nat.le_of_ble_eq_true rfl, Nat.le_of_ble_eq_true rfl⟩⟩ rfl hl rfl (Nat.le_of_ble_eq_true rfl) dX6_odds_153 ⟨Nat.zero_le _, Nat.zero_le _⟩ (fun H locs hw => ?_)
            cases h_e hM
            exact x_lret C hw dX6_odds_156
          · replace hM := h_t hc hM
            refine lv_aload_n hx hb dX6_odds_94 rfl (lv_at hl 3 rfl) ?_
            refine a_getp (q := 31) (σ := aG r85.2) (o := 0) (T := TX6) (N := 11) C wU_X6 hw rfl (by decide) rfl 8 (by decide) rfl wF_X6_48 (aG_P rfl rfl) dX6_odds_95 ?_
            obtain ⟨r98, hr98, hM⟩ := h_b hM
            refine a_callV (σ' := aG r98.2) (v := (some (.long r98.1))) (As := fun ad => []) (rest := []) (o := 31) C hw (c_X5_allCases l (wit31) hr98) k_X5_allCases wM_X6_173 ⟨⟨rfl, rfl⟩, ⟨Nat.le_of_ble_eq_true rfl, Nat.le_of_ble_eq_true rfl⟩⟩ (aWit_k wit31).1 (by decide) rfl rfl rfl hl rfl (Nat.le_of_ble_eq_true rfl) dX6_odds_98 ⟨Nat.zero_le _, Nat.zero_le _⟩ (fun H locs hw => ?_)
            refine lv_lload hx hb dX6_odds_101 (lv_at hl 1 rfl) ?_
            refine lv_lsub hx hb dX6_odds_103 ?_
            refine lv_lstore (lv' := [(6, .long (r98.1 - r73.1)), (8, .long r85.1), (5, .int r20.1), (0, .ref (ad 0)), (1, .int x1), (2, .int x2), (3, .int x3), (4, .int x4)]) hx hb dX6_odds_104 hl (by decide) rfl (fun ls hl => ?_)
            refine lv_aload_n hx hb dX6_odds_106 rfl (lv_at hl 3 rfl) ?_
            refine a_getp (q := 33) (σ := aG r98.2) (o := 0) (T := TX6) (N := 11) C wU_X6 hw rfl (by decide) rfl 9 (by decide) rfl wF_X6_52 (aG_P rfl rfl) dX6_odds_107 ?_
            obtain ⟨r110, hr110, hM⟩ := h_b hM
            refine a_callV (σ' := aG r110.2) (v := (some (.long r110.1))) (As := fun ad => []) (rest := []) (o := 33) C hw (c_X5_allCases l (wit33) hr110) k_X5_allCases wM_X6_173 ⟨⟨rfl, rfl⟩, ⟨Nat.le_of_ble_eq_true rfl, Nat.le_of_ble_eq_true rfl⟩⟩ (aWit_k wit33).1 (by decide) rfl rfl rfl hl rfl (Nat.le_of_ble_eq_true rfl) dX6_odds_110 ⟨Nat.zero_le _, Nat.zero_le _⟩ (fun H locs hw => ?_)
            refine lv_lload hx hb dX6_odds_113 (lv_at hl 1 rfl) ?_
            refine lv_lsub hx hb dX6_odds_115 ?_
            refine lv_lstore (lv' := [(8, .long (r110.1 - r85.1)), (6, .long (r98.1 - r73.1)), (5, .int r20.1), (0, .ref (ad 0)), (1, .int x1), (2, .int x2), (3, .int x3), (4, .int x4)]) hx hb dX6_odds_116 hl (by decide) rfl (fun ls hl => ?_)
            refine lv_aload_n hx hb dX6_odds_118 rfl (lv_at hl 3 rfl) ?_
            refine a_getp (q := 2) (σ := aG r110.2) (o := 0) (T := TX6) (N := 11) C wU_X6 hw rfl (by decide) rfl 2 (by decide) rfl wF_X6_20 (aG_P rfl rfl) dX6_odds_119 ?_
            refine a_getp (q := 6) (σ := aG r110.2) (o := 2) (T := TX2) (N := 11) C wU_X2 hw (aLin_k lin2).1 (by decide) rfl 6 (by decide) rfl wF_X6_141 (aLin_p lin2 r110.2 3 (by decide)) dX6_odds_122 ?_
            refine lv_iconst (v := (3 : Int32)) hx hb dX6_odds_125 (by decide) ?_
            refine a_iald (σ := aG r110.2) (o := 6) C hw rfl (aIn_v (by decide)) (show (3 : Int32).toNatClampNeg = 3 by decide) dX6_odds_126 ?_
            refine lv_i2l hx hb dX6_odds_127 rfl ?_
            refine lv_lstore (lv' := [(10, .long ((gI r110.2 6 3)).toInt64), (8, .long (r110.1 - r85.1)), (6, .long (r98.1 - r73.1)), (5, .int r20.1), (0, .ref (ad 0)), (1, .int x1), (2, .int x2), (3, .int x3), (4, .int x4)]) hx hb dX6_odds_128 hl (by decide) rfl (fun ls hl => ?_)
            refine lv_lload hx hb dX6_odds_130 (lv_at hl 0 rfl) ?_
            refine lv_lload hx hb dX6_odds_132 (lv_at hl 2 rfl) ?_
            refine lv_lmul hx hb dX6_odds_134 ?_
            refine lv_lstore (lv' := [(12, .long (((gI r110.2 6 3)).toInt64 * (r98.1 - r73.1))), (10, .long ((gI r110.2 6 3)).toInt64), (8, .long (r110.1 - r85.1)), (6, .long (r98.1 - r73.1)), (5, .int r20.1), (0, .ref (ad 0)), (1, .int x1), (2, .int x2), (3, .int x3), (4, .int x4)]) hx hb dX6_odds_135 hl (by decide) rfl (fun ls hl => ?_)
            refine lv_lload hx hb dX6_odds_137 (lv_at hl 0 rfl) ?_
            refine lv_lload hx hb dX6_odds_139 (lv_at hl 0 rfl) ?_
            refine lv_ldc2 (v := (100 : Int64)) hx hb hown (hts _ wQ_X6_203) dX6_odds_141 ?_
            refine lv_lload hx hb dX6_odds_144 (lv_at hl 1 rfl) ?_
            refine lv_lsub hx hb dX6_odds_146 ?_
            refine lv_lload hx hb dX6_odds_147 (lv_at hl 2 rfl) ?_
            refine lv_lmul hx hb dX6_odds_149 ?_
            refine lv_ladd hx hb dX6_odds_150 ?_
            refine lv_iload hx hb dX6_odds_151 (lv_at hl 9 rfl) ?_
            obtain ⟨r153, hr153, hM⟩ := h_b hM
            refine a_callS  (σ' := aG r153.2) (v := (some (.long r153.1))) (as := fun ad => [.long (((gI r110.2 6 3)).toInt64 * (r98.1 - r73.1)), .long ((((gI r110.2 6 3)).toInt64 * (r98.1 - r73.1)) + (((100 : Int64) - ((gI r110.2 6 3)).toInt64) * (r110.1 - r85.1))), .int x4]) (rest := []) C hw (c_X6_partOfFraction l hr153) k_X6_partOfFraction wM_X6_176 ⟨⟨rfl, rfl⟩, ⟨Nat.le_of_ble_eq_true rfl, Nat.le_of_ble_eq_true rfl⟩⟩ rfl hl rfl (Nat.le_of_ble_eq_true rfl) dX6_odds_153 ⟨Nat.zero_le _, Nat.zero_le _⟩ (fun H locs hw => ?_)
            cases h_e hM
            exact x_lret C hw dX6_odds_156
def fx_X6_cut : Nat := 7
def wx_X6_cut : Nat := 144
set_option maxHeartbeats 400000 in
set_option maxRecDepth 100000 in
theorem tl_X6_cut_64 (l : Launch) {p : Program} {e : Env} {s : State} {m : MethodId} {args : Array Value} {below : List Frame} {meth : Method} {c : Code} {D : va_G} {dA : Nat → ClassId} {ad adV : Nat → Nat} {A : Nat → Prop} (C : aX p m c cX6_cut 9 s args aTs RX6 meth (some .int)) (hout : ∀ x ∈ c.exceptionTable.toList, False) (hst : l.stackTraces = false) {res : (Nat × iS) ⊕ (Int32 × iS)} : ∀ (n : Nat) (y1 : Int32) (y2 : Int32) (y3 : Int32) (y4 : Int64) (y6 : Int32) {ι : iS}, l_X6_cut_64 n y1 y2 y3 y4 y6 ι = some res → ∀ {H : Heap} {locs : List Loc} {ls : Array Slot}, aW D dA ad adV (aG ι) A s H locs → lv_has ls 9 [(0, .ref (ad 0)), (1, .int y1), (2, .int y2), (3, .int y3), (4, .long y4), (6, .int y6)] → W p l e (aRx fx_X6_cut wx_X6_cut (xoi res)) s m args below meth c H locs 0 0 (vx_MQ below (aQx D dA ad (xoi res) A) (aXx D dA ad (xoi res) A) args s (oc9 (xoi res)) (os9 (xoi res)) A) (F0 m 64 ls []) := by
  have hx := C.1.1
  have hb := C.1.2.1
  have hml := C.1.2.2.1
  have hown := C.1.2.2.2.1
  have hts := C.1.2.2.2.2
  intro n
  induction n with
  | zero => intro y1 y2 y3 y4 y6 ι hM; simp [l_X6_cut_64] at hM
  | succ n ih =>
    intro y1 y2 y3 y4 y6 ι hM H locs ls hw hl
    rw [l_X6_cut_64] at hM
    refine lv_iload hx hb dX6_cut_64 (lv_at hl 5 rfl) ?_
    refine lv_bipush (v := (120 : Int32)) hx hb dX6_cut_66 (by decide) ?_
    refine lv_icmp_gt (tgt := 136) hx hb dX6_cut_68 (by decide) (fun hc => ?_) (fun hc => ?_)
    · replace hM := h_t hc hM
      refine lv_iload_n hx hb dX6_cut_136 rfl (lv_at hl 3 rfl) ?_
      cases h_e hM
      exact x_iret C hw dX6_cut_137
    · replace hM := h_f hc hM
      refine lv_aload_n hx hb dX6_cut_71 rfl (lv_at hl 0 rfl) ?_
      refine a_getp (q := 31) (σ := aG ι) (o := 0) (T := TX6) (N := 11) C wU_X6 hw rfl (by decide) rfl 8 (by decide) rfl wF_X6_48 (aG_P rfl rfl) dX6_cut_72 ?_
      refine lv_iload hx hb dX6_cut_75 (lv_at hl 5 rfl) ?_
      refine a_puti (ty := .int) (σ := aG ι) (o := 31) (T := TX5) (N := 5) (ty0 := tyX5) C wU_X5 tyX5_ok nmX5 hw (aWit_k wit31).1 (by decide) rfl 0 (by decide) rfl wF_X6_205 rfl (by decide +kernel) rfl rfl dX6_cut_77 (fun H locs hw => ?_)
      have hw : aW D dA ad adV (aG (pI ι 31 0 y6)) A s H locs := hw
      refine lv_aload_n hx hb dX6_cut_80 rfl (lv_at hl 0 rfl) ?_
      refine a_getp (q := 33) (σ := aG (pI ι 31 0 y6)) (o := 0) (T := TX6) (N := 11) C wU_X6 hw rfl (by decide) rfl 9 (by decide) rfl wF_X6_52 (aG_P rfl rfl) dX6_cut_81 ?_
      refine lv_iload hx hb dX6_cut_84 (lv_at hl 5 rfl) ?_
      refine a_puti (ty := .int) (σ := aG (pI ι 31 0 y6)) (o := 33) (T := TX5) (N := 5) (ty0 := tyX5) C wU_X5 tyX5_ok nmX5 hw (aWit_k wit33).1 (by decide) rfl 0 (by decide) rfl wF_X6_205 rfl (by decide +kernel) rfl rfl dX6_cut_86 (fun H locs hw => ?_)
      have hw : aW D dA ad adV (aG (pI (pI ι 31 0 y6) 33 0 y6)) A s H locs := hw
      refine lv_aload_n hx hb dX6_cut_89 rfl (lv_at hl 0 rfl) ?_
      refine a_getp (q := 31) (σ := aG (pI (pI ι 31 0 y6) 33 0 y6)) (o := 0) (T := TX6) (N := 11) C wU_X6 hw rfl (by decide) rfl 8 (by decide) rfl wF_X6_48 (aG_P rfl rfl) dX6_cut_90 ?_
      refine lv_iload_n hx hb dX6_cut_93 rfl (lv_at hl 1 rfl) ?_
      refine lv_iload_n hx hb dX6_cut_94 rfl (lv_at hl 2 rfl) ?_
      obtain ⟨r95, hr95, hM⟩ := h_b hM
      refine a_callV (σ' := aG r95.2) (v := (some (.long r95.1))) (As := fun ad => [.int y1, .int y2]) (rest := []) (o := 31) C hw (c_X5_casesOf l (wit31) hr95) k_X5_casesOf wM_X6_180 ⟨⟨rfl, rfl⟩, ⟨Nat.le_of_ble_eq_true rfl, Nat.le_of_ble_eq_true rfl⟩⟩ (aWit_k wit31).1 (by decide) rfl rfl rfl hl rfl (Nat.le_of_ble_eq_true rfl) dX6_cut_95 ⟨Nat.zero_le _, Nat.zero_le _⟩ (fun H locs hw => ?_)
      refine lv_aload_n hx hb dX6_cut_98 rfl (lv_at hl 0 rfl) ?_
      refine a_getp (q := 33) (σ := aG r95.2) (o := 0) (T := TX6) (N := 11) C wU_X6 hw rfl (by decide) rfl 9 (by decide) rfl wF_X6_52 (aG_P rfl rfl) dX6_cut_99 ?_
      refine lv_iload_n hx hb dX6_cut_102 rfl (lv_at hl 1 rfl) ?_
      refine lv_iload_n hx hb dX6_cut_103 rfl (lv_at hl 2 rfl) ?_
      obtain ⟨r104, hr104, hM⟩ := h_b hM
      refine a_callV (σ' := aG r104.2) (v := (some (.long r104.1))) (As := fun ad => [.int y1, .int y2]) (rest := [.long r95.1]) (o := 33) C hw (c_X5_casesOf l (wit33) hr104) k_X5_casesOf wM_X6_180 ⟨⟨rfl, rfl⟩, ⟨Nat.le_of_ble_eq_true rfl, Nat.le_of_ble_eq_true rfl⟩⟩ (aWit_k wit33).1 (by decide) rfl rfl rfl hl rfl (Nat.le_of_ble_eq_true rfl) dX6_cut_104 ⟨Nat.zero_le _, Nat.zero_le _⟩ (fun H locs hw => ?_)
      refine lv_lsub hx hb dX6_cut_107 ?_
      refine lv_lstore (lv' := [(7, .long (r95.1 - r104.1)), (0, .ref (ad 0)), (1, .int y1), (2, .int y2), (3, .int y3), (4, .long y4), (6, .int y6)]) hx hb dX6_cut_108 hl (by decide) rfl (fun ls hl => ?_)
      refine lv_iload hx hb dX6_cut_110 (lv_at hl 6 rfl) ?_
      refine lv_if_eq (tgt := 123) hx hb dX6_cut_112 (by decide) (fun hc => ?_) (fun hc => ?_)
      · replace hM := h_t hc hM
        refine lv_iload hx hb dX6_cut_123 (lv_at hl 6 rfl) ?_
        refine lv_istore_n (lv' := [(3, .int y6), (7, .long (r95.1 - r104.1)), (0, .ref (ad 0)), (1, .int y1), (2, .int y2), (4, .long y4), (6, .int y6)]) hx hb dX6_cut_125 rfl hl (by decide) rfl (fun ls hl => ?_)
        refine lv_lload hx hb dX6_cut_126 (lv_at hl 1 rfl) ?_
        refine lv_lstore (lv' := [(4, .long (r95.1 - r104.1)), (3, .int y6), (7, .long (r95.1 - r104.1)), (0, .ref (ad 0)), (1, .int y1), (2, .int y2), (6, .int y6)]) hx hb dX6_cut_128 hl (by decide) rfl (fun ls hl => ?_)
        refine lv_iinc (v := (y6 + 1)) (lv' := [(6, .int (y6 + 1)), (4, .long (r95.1 - r104.1)), (3, .int y6), (7, .long (r95.1 - r104.1)), (0, .ref (ad 0)), (1, .int y1), (2, .int y2)]) hx hb dX6_cut_130 hl (k := 6) rfl rfl (by decide) rfl (fun ls hl => ?_)
        refine lv_goto (tgt := 64) hx hb dX6_cut_133 (by decide) ?_
        exact ih (y1) (y2) (y6) ((r95.1 - r104.1)) ((y6 + 1)) hM hw (lv_sub hl [4, 5, 6, 2, 1, 0] rfl)
      · replace hM := h_f hc hM
        refine lv_lload hx hb dX6_cut_115 (lv_at hl 0 rfl) ?_
        refine lv_lload hx hb dX6_cut_117 (lv_at hl 5 rfl) ?_
        refine W.lcmp hx hb dX6_cut_119 ?_
        refine lv_if_le (tgt := 130) hx hb dX6_cut_120 (by decide) (fun hc => ?_) (fun hc => ?_)
        · replace hM := h_t hc hM
          refine lv_iinc (v := (y6 + 1)) (lv' := [(6, .int (y6 + 1)), (7, .long (r95.1 - r104.1)), (0, .ref (ad 0)), (1, .int y1), (2, .int y2), (3, .int y3), (4, .long y4)]) hx hb dX6_cut_130 hl (k := 6) rfl rfl (by decide) rfl (fun ls hl => ?_)
          refine lv_goto (tgt := 64) hx hb dX6_cut_133 (by decide) ?_
          exact ih (y1) (y2) (y3) (y4) ((y6 + 1)) hM hw (lv_sub hl [2, 3, 4, 5, 6, 0] rfl)
        · replace hM := h_f hc hM
          refine lv_iload hx hb dX6_cut_123 (lv_at hl 6 rfl) ?_
          refine lv_istore_n (lv' := [(3, .int y6), (7, .long (r95.1 - r104.1)), (0, .ref (ad 0)), (1, .int y1), (2, .int y2), (4, .long y4), (6, .int y6)]) hx hb dX6_cut_125 rfl hl (by decide) rfl (fun ls hl => ?_)
          refine lv_lload hx hb dX6_cut_126 (lv_at hl 1 rfl) ?_
          refine lv_lstore (lv' := [(4, .long (r95.1 - r104.1)), (3, .int y6), (7, .long (r95.1 - r104.1)), (0, .ref (ad 0)), (1, .int y1), (2, .int y2), (6, .int y6)]) hx hb dX6_cut_128 hl (by decide) rfl (fun ls hl => ?_)
          refine lv_iinc (v := (y6 + 1)) (lv' := [(6, .int (y6 + 1)), (4, .long (r95.1 - r104.1)), (3, .int y6), (7, .long (r95.1 - r104.1)), (0, .ref (ad 0)), (1, .int y1), (2, .int y2)]) hx hb dX6_cut_130 hl (k := 6) rfl rfl (by decide) rfl (fun ls hl => ?_)
          refine lv_goto (tgt := 64) hx hb dX6_cut_133 (by decide) ?_
          exact ih (y1) (y2) (y6) ((r95.1 - r104.1)) ((y6 + 1)) hM hw (lv_sub hl [4, 5, 6, 2, 1, 0] rfl)
theorem k_X6_cut : aCal RX6 yX6_cut cX6_cut 9 (some .int) 1 := ⟨wI_yX6_cut, wE_yX6_cut, wZ_X6, wC_yX6_cut, by decide +kernel⟩
set_option maxHeartbeats 400000 in
set_option maxRecDepth 100000 in
theorem c_X6_cut (l : Launch) (hst : l.stackTraces = false) {x1 : Int32} {ι : iS} {res : (Nat × iS) ⊕ (Int32 × iS)} (hM : m_X6_cut x1 ι = some res) : aMx l yX6_cut cX6_cut 9 (some .int) fx_X6_cut wx_X6_cut (fun ad => [.ref (ad 0), .int x1]) (aG ι) (xoi res) := by
  refine aMx.of (by decide) (fun _ => Nat.le_of_ble_eq_true rfl) ?_
  intro p e s m args below meth c D dA ad adV A ls C hw hl hout
  have C : aX p m c cX6_cut 9 s args aTs RX6 meth (some .int) := C
  have hx := C.1.1
  have hb := C.1.2.1
  have hml := C.1.2.2.1
  have hown := C.1.2.2.2.1
  have hts := C.1.2.2.2.2
  have hl : lv_has ls 9 [(0, .ref (ad 0)), (1, .int x1)] := hl
  unfold m_X6_cut at hM
  refine lv_aload_n hx hb dX6_cut_0 rfl (lv_at hl 0 rfl) ?_
  refine lv_iload_n hx hb dX6_cut_1 rfl (lv_at hl 1 rfl) ?_
  refine lv_iconst (v := (0 : Int32)) hx hb dX6_cut_2 (by decide) ?_
  refine lv_iconst (v := (1 : Int32)) hx hb dX6_cut_3 (by decide) ?_
  obtain ⟨r4, hr4, hM⟩ := h_b hM
  cases r4 with
  | inl r4t =>
    replace hM : some (Sum.inl r4t) = some res := hM
    cases h_e hM
    have q9 := c_X6_needRange l hst hr4
    exact x_callT (σ' := aG r4t.2) (E := aEx r4t.1) (As := fun ad => [.int x1, .int (0 : Int32), .int (1 : Int32)]) (rest := []) (ob := 0) C hw hout q9 k_X6_needRange wM_X6_91 ⟨Nat.le_of_ble_eq_true rfl, Nat.le_of_ble_eq_true rfl⟩ rfl (by decide) rfl rfl rfl hl rfl (Nat.le_of_ble_eq_true rfl) dX6_cut_4
  | inr r4n =>
    replace hM : (Option.bind (m_X2_placeOf 2 (0 : Int32) r4n) fun r12 => if r12.1 = (-1 : Int32) then Option.bind (m_X6_needState (0 : Int32) r12.2) fun r27 => match r27 with | .inl r27t => some (.inl r27t) | .inr r27n => Option.bind (m_X5_look 31 2 (1 : Int32) (1 : Int32) r27n) fun r40 => Option.bind (m_X5_look 33 2 (0 : Int32) (1 : Int32) r40) fun r53 => l_X6_cut_64 aF x1 r12.1 (0 : Int32) (0 : Int64) (0 : Int32) r53 else Option.bind (m_X6_needState (1 : Int32) r12.2) fun r27 => match r27 with | .inl r27t => some (.inl r27t) | .inr r27n => Option.bind (m_X5_look 31 2 (1 : Int32) (1 : Int32) r27n) fun r40 => Option.bind (m_X5_look 33 2 (0 : Int32) (1 : Int32) r40) fun r53 => l_X6_cut_64 aF x1 r12.1 (0 : Int32) (0 : Int64) (0 : Int32) r53) = some res := hM
    have q9 := c_X6_needRange l hst hr4
    refine x_callN (σ' := aG r4n) (v := none) (As := fun ad => [.int x1, .int (0 : Int32), .int (1 : Int32)]) (rest := []) (ob := 0) C hw q9 k_X6_needRange wM_X6_91 ⟨Nat.le_of_ble_eq_true rfl, Nat.le_of_ble_eq_true rfl⟩ rfl (by decide) rfl rfl rfl hl rfl (Nat.le_of_ble_eq_true rfl) dX6_cut_4 ⟨Nat.zero_le _, Nat.zero_le _⟩ (fun H locs hw => ?_)
    refine lv_aload_n hx hb dX6_cut_7 rfl (lv_at hl 0 rfl) ?_
    refine a_getp (q := 2) (σ := aG r4n) (o := 0) (T := TX6) (N := 11) C wU_X6 hw rfl (by decide) rfl 2 (by decide) rfl wF_X6_20 (aG_P rfl rfl) dX6_cut_8 ?_
    refine lv_iconst (v := (0 : Int32)) hx hb dX6_cut_11 (by decide) ?_
    obtain ⟨r12, hr12, hM⟩ := h_b hM
    refine a_callV (σ' := aG r12.2) (v := (some (.int r12.1))) (As := fun ad => [.int (0 : Int32)]) (rest := []) (o := 2) C hw (c_X2_placeOf l (lin2) hr12) k_X2_placeOf wM_X6_115 ⟨⟨rfl, rfl⟩, ⟨Nat.le_of_ble_eq_true rfl, Nat.le_of_ble_eq_true rfl⟩⟩ (aLin_k lin2).1 (by decide) rfl rfl rfl hl rfl (Nat.le_of_ble_eq_true rfl) dX6_cut_12 ⟨Nat.zero_le _, Nat.zero_le _⟩ (fun H locs hw => ?_)
    refine lv_istore_n (lv' := [(2, .int r12.1), (0, .ref (ad 0)), (1, .int x1)]) hx hb dX6_cut_15 rfl hl (by decide) rfl (fun ls hl => ?_)
    refine lv_aload_n hx hb dX6_cut_16 rfl (lv_at hl 1 rfl) ?_
    refine lv_iload_n hx hb dX6_cut_17 rfl (lv_at hl 0 rfl) ?_
    refine lv_iconst (v := (-1 : Int32)) hx hb dX6_cut_18 (by decide) ?_
    refine lv_icmp_eq (tgt := 26) hx hb dX6_cut_19 (by decide) (fun hc => ?_) (fun hc => ?_)
    · replace hM := h_t hc hM
      refine lv_iconst (v := (0 : Int32)) hx hb dX6_cut_26 (by decide) ?_
      obtain ⟨r27, hr27, hM⟩ := h_b hM
      cases r27 with
      | inl r27t =>
        replace hM : some (Sum.inl r27t) = some res := hM
        cases h_e hM
        have q9 := c_X6_needState l hst hr27
        exact x_callT (σ' := aG r27t.2) (E := aEx r27t.1) (As := fun ad => [.int (0 : Int32)]) (rest := []) (ob := 0) C hw hout q9 k_X6_needState wM_X6_122 ⟨Nat.le_of_ble_eq_true rfl, Nat.le_of_ble_eq_true rfl⟩ rfl (by decide) rfl rfl rfl hl rfl (Nat.le_of_ble_eq_true rfl) dX6_cut_27
      | inr r27n =>
        replace hM : (Option.bind (m_X5_look 31 2 (1 : Int32) (1 : Int32) r27n) fun r40 => Option.bind (m_X5_look 33 2 (0 : Int32) (1 : Int32) r40) fun r53 => l_X6_cut_64 aF x1 r12.1 (0 : Int32) (0 : Int64) (0 : Int32) r53) = some res := hM
        have q9 := c_X6_needState l hst hr27
        refine x_callN (σ' := aG r27n) (v := none) (As := fun ad => [.int (0 : Int32)]) (rest := []) (ob := 0) C hw q9 k_X6_needState wM_X6_122 ⟨Nat.le_of_ble_eq_true rfl, Nat.le_of_ble_eq_true rfl⟩ rfl (by decide) rfl rfl rfl hl rfl (Nat.le_of_ble_eq_true rfl) dX6_cut_27 ⟨Nat.zero_le _, Nat.zero_le _⟩ (fun H locs hw => ?_)
        refine lv_aload_n hx hb dX6_cut_30 rfl (lv_at hl 1 rfl) ?_
        refine a_getp (q := 31) (σ := aG r27n) (o := 0) (T := TX6) (N := 11) C wU_X6 hw rfl (by decide) rfl 8 (by decide) rfl wF_X6_48 (aG_P rfl rfl) dX6_cut_31 ?_
        refine lv_aload_n hx hb dX6_cut_34 rfl (lv_at hl 1 rfl) ?_
        refine a_getp (q := 2) (σ := aG r27n) (o := 0) (T := TX6) (N := 11) C wU_X6 hw rfl (by decide) rfl 2 (by decide) rfl wF_X6_20 (aG_P rfl rfl) dX6_cut_35 ?_
        refine lv_iconst (v := (1 : Int32)) hx hb dX6_cut_38 (by decide) ?_
        refine lv_iconst (v := (1 : Int32)) hx hb dX6_cut_39 (by decide) ?_
        obtain ⟨r40, hr40, hM⟩ := h_b hM
        refine a_callV (σ' := aG r40) (v := none) (As := fun ad => [.ref (ad 2), .int (1 : Int32), .int (1 : Int32)]) (rest := []) (o := 31) C hw (c_X5_look l (wit31) (lin2) hr40) k_X5_look wM_X6_165 ⟨⟨rfl, rfl⟩, ⟨Nat.le_of_ble_eq_true rfl, Nat.le_of_ble_eq_true rfl⟩⟩ (aWit_k wit31).1 (by decide) rfl rfl rfl hl rfl (Nat.le_of_ble_eq_true rfl) dX6_cut_40 ⟨Nat.zero_le _, Nat.zero_le _⟩ (fun H locs hw => ?_)
        refine lv_aload_n hx hb dX6_cut_43 rfl (lv_at hl 1 rfl) ?_
        refine a_getp (q := 33) (σ := aG r40) (o := 0) (T := TX6) (N := 11) C wU_X6 hw rfl (by decide) rfl 9 (by decide) rfl wF_X6_52 (aG_P rfl rfl) dX6_cut_44 ?_
        refine lv_aload_n hx hb dX6_cut_47 rfl (lv_at hl 1 rfl) ?_
        refine a_getp (q := 2) (σ := aG r40) (o := 0) (T := TX6) (N := 11) C wU_X6 hw rfl (by decide) rfl 2 (by decide) rfl wF_X6_20 (aG_P rfl rfl) dX6_cut_48 ?_
        refine lv_iconst (v := (0 : Int32)) hx hb dX6_cut_51 (by decide) ?_
        refine lv_iconst (v := (1 : Int32)) hx hb dX6_cut_52 (by decide) ?_
        obtain ⟨r53, hr53, hM⟩ := h_b hM
        refine a_callV (σ' := aG r53) (v := none) (As := fun ad => [.ref (ad 2), .int (0 : Int32), .int (1 : Int32)]) (rest := []) (o := 33) C hw (c_X5_look l (wit33) (lin2) hr53) k_X5_look wM_X6_165 ⟨⟨rfl, rfl⟩, ⟨Nat.le_of_ble_eq_true rfl, Nat.le_of_ble_eq_true rfl⟩⟩ (aWit_k wit33).1 (by decide) rfl rfl rfl hl rfl (Nat.le_of_ble_eq_true rfl) dX6_cut_53 ⟨Nat.zero_le _, Nat.zero_le _⟩ (fun H locs hw => ?_)
        refine lv_iconst (v := (0 : Int32)) hx hb dX6_cut_56 (by decide) ?_
        refine lv_istore_n (lv' := [(3, .int (0 : Int32)), (2, .int r12.1), (0, .ref (ad 0)), (1, .int x1)]) hx hb dX6_cut_57 rfl hl (by decide) rfl (fun ls hl => ?_)
        refine lv_lconst (v := (0 : Int64)) hx hb dX6_cut_58 (by decide) ?_
        refine lv_lstore (lv' := [(4, .long (0 : Int64)), (3, .int (0 : Int32)), (2, .int r12.1), (0, .ref (ad 0)), (1, .int x1)]) hx hb dX6_cut_59 hl (by decide) rfl (fun ls hl => ?_)
        refine lv_iconst (v := (0 : Int32)) hx hb dX6_cut_61 (by decide) ?_
        refine lv_istore (lv' := [(6, .int (0 : Int32)), (4, .long (0 : Int64)), (3, .int (0 : Int32)), (2, .int r12.1), (0, .ref (ad 0)), (1, .int x1)]) hx hb dX6_cut_62 hl (by decide) rfl (fun ls hl => ?_)
        exact tl_X6_cut_64 l C hout hst aF (x1) (r12.1) ((0 : Int32)) ((0 : Int64)) ((0 : Int32)) hM hw (lv_sub hl [4, 5, 3, 2, 1, 0] rfl)
    · replace hM := h_f hc hM
      refine lv_iconst (v := (1 : Int32)) hx hb dX6_cut_22 (by decide) ?_
      refine lv_goto (tgt := 27) hx hb dX6_cut_23 (by decide) ?_
      obtain ⟨r27, hr27, hM⟩ := h_b hM
      cases r27 with
      | inl r27t =>
        replace hM : some (Sum.inl r27t) = some res := hM
        cases h_e hM
        have q9 := c_X6_needState l hst hr27
        exact x_callT (σ' := aG r27t.2) (E := aEx r27t.1) (As := fun ad => [.int (1 : Int32)]) (rest := []) (ob := 0) C hw hout q9 k_X6_needState wM_X6_122 ⟨Nat.le_of_ble_eq_true rfl, Nat.le_of_ble_eq_true rfl⟩ rfl (by decide) rfl rfl rfl hl rfl (Nat.le_of_ble_eq_true rfl) dX6_cut_27
      | inr r27n =>
        replace hM : (Option.bind (m_X5_look 31 2 (1 : Int32) (1 : Int32) r27n) fun r40 => Option.bind (m_X5_look 33 2 (0 : Int32) (1 : Int32) r40) fun r53 => l_X6_cut_64 aF x1 r12.1 (0 : Int32) (0 : Int64) (0 : Int32) r53) = some res := hM
        have q9 := c_X6_needState l hst hr27
        refine x_callN (σ' := aG r27n) (v := none) (As := fun ad => [.int (1 : Int32)]) (rest := []) (ob := 0) C hw q9 k_X6_needState wM_X6_122 ⟨Nat.le_of_ble_eq_true rfl, Nat.le_of_ble_eq_true rfl⟩ rfl (by decide) rfl rfl rfl hl rfl (Nat.le_of_ble_eq_true rfl) dX6_cut_27 ⟨Nat.zero_le _, Nat.zero_le _⟩ (fun H locs hw => ?_)
        refine lv_aload_n hx hb dX6_cut_30 rfl (lv_at hl 1 rfl) ?_
        refine a_getp (q := 31) (σ := aG r27n) (o := 0) (T := TX6) (N := 11) C wU_X6 hw rfl (by decide) rfl 8 (by decide) rfl wF_X6_48 (aG_P rfl rfl) dX6_cut_31 ?_
        refine lv_aload_n hx hb dX6_cut_34 rfl (lv_at hl 1 rfl) ?_
        refine a_getp (q := 2) (σ := aG r27n) (o := 0) (T := TX6) (N := 11) C wU_X6 hw rfl (by decide) rfl 2 (by decide) rfl wF_X6_20 (aG_P rfl rfl) dX6_cut_35 ?_
        refine lv_iconst (v := (1 : Int32)) hx hb dX6_cut_38 (by decide) ?_
        refine lv_iconst (v := (1 : Int32)) hx hb dX6_cut_39 (by decide) ?_
        obtain ⟨r40, hr40, hM⟩ := h_b hM
        refine a_callV (σ' := aG r40) (v := none) (As := fun ad => [.ref (ad 2), .int (1 : Int32), .int (1 : Int32)]) (rest := []) (o := 31) C hw (c_X5_look l (wit31) (lin2) hr40) k_X5_look wM_X6_165 ⟨⟨rfl, rfl⟩, ⟨Nat.le_of_ble_eq_true rfl, Nat.le_of_ble_eq_true rfl⟩⟩ (aWit_k wit31).1 (by decide) rfl rfl rfl hl rfl (Nat.le_of_ble_eq_true rfl) dX6_cut_40 ⟨Nat.zero_le _, Nat.zero_le _⟩ (fun H locs hw => ?_)
        refine lv_aload_n hx hb dX6_cut_43 rfl (lv_at hl 1 rfl) ?_
        refine a_getp (q := 33) (σ := aG r40) (o := 0) (T := TX6) (N := 11) C wU_X6 hw rfl (by decide) rfl 9 (by decide) rfl wF_X6_52 (aG_P rfl rfl) dX6_cut_44 ?_
        refine lv_aload_n hx hb dX6_cut_47 rfl (lv_at hl 1 rfl) ?_
        refine a_getp (q := 2) (σ := aG r40) (o := 0) (T := TX6) (N := 11) C wU_X6 hw rfl (by decide) rfl 2 (by decide) rfl wF_X6_20 (aG_P rfl rfl) dX6_cut_48 ?_
        refine lv_iconst (v := (0 : Int32)) hx hb dX6_cut_51 (by decide) ?_
        refine lv_iconst (v := (1 : Int32)) hx hb dX6_cut_52 (by decide) ?_
        obtain ⟨r53, hr53, hM⟩ := h_b hM
        refine a_callV (σ' := aG r53) (v := none) (As := fun ad => [.ref (ad 2), .int (0 : Int32), .int (1 : Int32)]) (rest := []) (o := 33) C hw (c_X5_look l (wit33) (lin2) hr53) k_X5_look wM_X6_165 ⟨⟨rfl, rfl⟩, ⟨Nat.le_of_ble_eq_true rfl, Nat.le_of_ble_eq_true rfl⟩⟩ (aWit_k wit33).1 (by decide) rfl rfl rfl hl rfl (Nat.le_of_ble_eq_true rfl) dX6_cut_53 ⟨Nat.zero_le _, Nat.zero_le _⟩ (fun H locs hw => ?_)
        refine lv_iconst (v := (0 : Int32)) hx hb dX6_cut_56 (by decide) ?_
        refine lv_istore_n (lv' := [(3, .int (0 : Int32)), (2, .int r12.1), (0, .ref (ad 0)), (1, .int x1)]) hx hb dX6_cut_57 rfl hl (by decide) rfl (fun ls hl => ?_)
        refine lv_lconst (v := (0 : Int64)) hx hb dX6_cut_58 (by decide) ?_
        refine lv_lstore (lv' := [(4, .long (0 : Int64)), (3, .int (0 : Int32)), (2, .int r12.1), (0, .ref (ad 0)), (1, .int x1)]) hx hb dX6_cut_59 hl (by decide) rfl (fun ls hl => ?_)
        refine lv_iconst (v := (0 : Int32)) hx hb dX6_cut_61 (by decide) ?_
        refine lv_istore (lv' := [(6, .int (0 : Int32)), (4, .long (0 : Int64)), (3, .int (0 : Int32)), (2, .int r12.1), (0, .ref (ad 0)), (1, .int x1)]) hx hb dX6_cut_62 hl (by decide) rfl (fun ls hl => ?_)
        exact tl_X6_cut_64 l C hout hst aF (x1) (r12.1) ((0 : Int32)) ((0 : Int64)) ((0 : Int32)) hM hw (lv_sub hl [4, 5, 3, 2, 1, 0] rfl)
def fx_X6_nudged : Nat := 7
def wx_X6_nudged : Nat := 144
theorem k_X6_nudged : aCal RX6 yX6_nudged cX6_nudged 9 (some .int) 1 := ⟨wI_yX6_nudged, wE_yX6_nudged, wZ_X6, wC_yX6_nudged, by decide +kernel⟩
set_option maxHeartbeats 400000 in
set_option maxRecDepth 100000 in
theorem c_X6_nudged (l : Launch) (hst : l.stackTraces = false) {x1 : Int32} {ι : iS} {res : (Nat × iS) ⊕ (Int32 × iS)} (hM : m_X6_nudged x1 ι = some res) : aMx l yX6_nudged cX6_nudged 9 (some .int) fx_X6_nudged wx_X6_nudged (fun ad => [.ref (ad 0), .int x1]) (aG ι) (xoi res) := by
  refine aMx.of (by decide) (fun _ => Nat.le_of_ble_eq_true rfl) ?_
  intro p e s m args below meth c D dA ad adV A ls C hw hl hout
  have C : aX p m c cX6_nudged 9 s args aTs RX6 meth (some .int) := C
  have hx := C.1.1
  have hb := C.1.2.1
  have hml := C.1.2.2.1
  have hown := C.1.2.2.2.1
  have hts := C.1.2.2.2.2
  have hl : lv_has ls 9 [(0, .ref (ad 0)), (1, .int x1)] := hl
  unfold m_X6_nudged at hM
  refine lv_aload_n hx hb dX6_nudged_0 rfl (lv_at hl 0 rfl) ?_
  refine lv_iload_n hx hb dX6_nudged_1 rfl (lv_at hl 1 rfl) ?_
  refine lv_iconst (v := (0 : Int32)) hx hb dX6_nudged_2 (by decide) ?_
  refine lv_iconst (v := (1 : Int32)) hx hb dX6_nudged_3 (by decide) ?_
  obtain ⟨r4, hr4, hM⟩ := h_b hM
  cases r4 with
  | inl r4t =>
    replace hM : some (Sum.inl r4t) = some res := hM
    cases h_e hM
    have q9 := c_X6_needRange l hst hr4
    exact x_callT (σ' := aG r4t.2) (E := aEx r4t.1) (As := fun ad => [.int x1, .int (0 : Int32), .int (1 : Int32)]) (rest := []) (ob := 0) C hw hout q9 k_X6_needRange wM_X6_91 ⟨Nat.le_of_ble_eq_true rfl, Nat.le_of_ble_eq_true rfl⟩ rfl (by decide) rfl rfl rfl hl rfl (Nat.le_of_ble_eq_true rfl) dX6_nudged_4
  | inr r4n =>
    replace hM : (Option.bind (m_X2_placeOf 2 (0 : Int32) r4n) fun r12 => if r12.1 = (-1 : Int32) then Option.bind (m_X6_needState (0 : Int32) r12.2) fun r27 => match r27 with | .inl r27t => some (.inl r27t) | .inr r27n => Option.bind (m_X5_look 33 2 (0 : Int32) (1 : Int32) r27n) fun r40 => Option.bind (m_X5_casesOf 33 x1 r12.1 r40) fun r49 => Option.bind (m_X5_look 33 2 (0 : Int32) (0 : Int32) r49.2) fun r63 => Option.bind (m_X5_casesOf 33 x1 r12.1 r63) fun r72 => Option.bind (m_X5_allCases 33 r72.2) fun r83 => if (lg_cmp r83.1 (0 : Int64)) = 0 then some (.inr ((0 : Int32), r83.2)) else if ¬ r83.1 = 0 then some (.inr (((((100 : Int64) * (r72.1 - r49.1)) / r83.1)).toInt32, r83.2)) else none else Option.bind (m_X6_needState (1 : Int32) r12.2) fun r27 => match r27 with | .inl r27t => some (.inl r27t) | .inr r27n => Option.bind (m_X5_look 33 2 (0 : Int32) (1 : Int32) r27n) fun r40 => Option.bind (m_X5_casesOf 33 x1 r12.1 r40) fun r49 => Option.bind (m_X5_look 33 2 (0 : Int32) (0 : Int32) r49.2) fun r63 => Option.bind (m_X5_casesOf 33 x1 r12.1 r63) fun r72 => Option.bind (m_X5_allCases 33 r72.2) fun r83 => if (lg_cmp r83.1 (0 : Int64)) = 0 then some (.inr ((0 : Int32), r83.2)) else if ¬ r83.1 = 0 then some (.inr (((((100 : Int64) * (r72.1 - r49.1)) / r83.1)).toInt32, r83.2)) else none) = some res := hM
    have q9 := c_X6_needRange l hst hr4
    refine x_callN (σ' := aG r4n) (v := none) (As := fun ad => [.int x1, .int (0 : Int32), .int (1 : Int32)]) (rest := []) (ob := 0) C hw q9 k_X6_needRange wM_X6_91 ⟨Nat.le_of_ble_eq_true rfl, Nat.le_of_ble_eq_true rfl⟩ rfl (by decide) rfl rfl rfl hl rfl (Nat.le_of_ble_eq_true rfl) dX6_nudged_4 ⟨Nat.zero_le _, Nat.zero_le _⟩ (fun H locs hw => ?_)
    refine lv_aload_n hx hb dX6_nudged_7 rfl (lv_at hl 0 rfl) ?_
    refine a_getp (q := 2) (σ := aG r4n) (o := 0) (T := TX6) (N := 11) C wU_X6 hw rfl (by decide) rfl 2 (by decide) rfl wF_X6_20 (aG_P rfl rfl) dX6_nudged_8 ?_
    refine lv_iconst (v := (0 : Int32)) hx hb dX6_nudged_11 (by decide) ?_
    obtain ⟨r12, hr12, hM⟩ := h_b hM
    refine a_callV (σ' := aG r12.2) (v := (some (.int r12.1))) (As := fun ad => [.int (0 : Int32)]) (rest := []) (o := 2) C hw (c_X2_placeOf l (lin2) hr12) k_X2_placeOf wM_X6_115 ⟨⟨rfl, rfl⟩, ⟨Nat.le_of_ble_eq_true rfl, Nat.le_of_ble_eq_true rfl⟩⟩ (aLin_k lin2).1 (by decide) rfl rfl rfl hl rfl (Nat.le_of_ble_eq_true rfl) dX6_nudged_12 ⟨Nat.zero_le _, Nat.zero_le _⟩ (fun H locs hw => ?_)
    refine lv_istore_n (lv' := [(2, .int r12.1), (0, .ref (ad 0)), (1, .int x1)]) hx hb dX6_nudged_15 rfl hl (by decide) rfl (fun ls hl => ?_)
    refine lv_aload_n hx hb dX6_nudged_16 rfl (lv_at hl 1 rfl) ?_
    refine lv_iload_n hx hb dX6_nudged_17 rfl (lv_at hl 0 rfl) ?_
    refine lv_iconst (v := (-1 : Int32)) hx hb dX6_nudged_18 (by decide) ?_
    refine lv_icmp_eq (tgt := 26) hx hb dX6_nudged_19 (by decide) (fun hc => ?_) (fun hc => ?_)
    · replace hM := h_t hc hM
      refine lv_iconst (v := (0 : Int32)) hx hb dX6_nudged_26 (by decide) ?_
      obtain ⟨r27, hr27, hM⟩ := h_b hM
      cases r27 with
      | inl r27t =>
        replace hM : some (Sum.inl r27t) = some res := hM
        cases h_e hM
        have q9 := c_X6_needState l hst hr27
        exact x_callT (σ' := aG r27t.2) (E := aEx r27t.1) (As := fun ad => [.int (0 : Int32)]) (rest := []) (ob := 0) C hw hout q9 k_X6_needState wM_X6_122 ⟨Nat.le_of_ble_eq_true rfl, Nat.le_of_ble_eq_true rfl⟩ rfl (by decide) rfl rfl rfl hl rfl (Nat.le_of_ble_eq_true rfl) dX6_nudged_27
      | inr r27n =>
        replace hM : (Option.bind (m_X5_look 33 2 (0 : Int32) (1 : Int32) r27n) fun r40 => Option.bind (m_X5_casesOf 33 x1 r12.1 r40) fun r49 => Option.bind (m_X5_look 33 2 (0 : Int32) (0 : Int32) r49.2) fun r63 => Option.bind (m_X5_casesOf 33 x1 r12.1 r63) fun r72 => Option.bind (m_X5_allCases 33 r72.2) fun r83 => if (lg_cmp r83.1 (0 : Int64)) = 0 then some (.inr ((0 : Int32), r83.2)) else if ¬ r83.1 = 0 then some (.inr (((((100 : Int64) * (r72.1 - r49.1)) / r83.1)).toInt32, r83.2)) else none) = some res := hM
        have q9 := c_X6_needState l hst hr27
        refine x_callN (σ' := aG r27n) (v := none) (As := fun ad => [.int (0 : Int32)]) (rest := []) (ob := 0) C hw q9 k_X6_needState wM_X6_122 ⟨Nat.le_of_ble_eq_true rfl, Nat.le_of_ble_eq_true rfl⟩ rfl (by decide) rfl rfl rfl hl rfl (Nat.le_of_ble_eq_true rfl) dX6_nudged_27 ⟨Nat.zero_le _, Nat.zero_le _⟩ (fun H locs hw => ?_)
        refine lv_aload_n hx hb dX6_nudged_30 rfl (lv_at hl 1 rfl) ?_
        refine a_getp (q := 33) (σ := aG r27n) (o := 0) (T := TX6) (N := 11) C wU_X6 hw rfl (by decide) rfl 9 (by decide) rfl wF_X6_52 (aG_P rfl rfl) dX6_nudged_31 ?_
        refine lv_aload_n hx hb dX6_nudged_34 rfl (lv_at hl 1 rfl) ?_
        refine a_getp (q := 2) (σ := aG r27n) (o := 0) (T := TX6) (N := 11) C wU_X6 hw rfl (by decide) rfl 2 (by decide) rfl wF_X6_20 (aG_P rfl rfl) dX6_nudged_35 ?_
        refine lv_iconst (v := (0 : Int32)) hx hb dX6_nudged_38 (by decide) ?_
        refine lv_iconst (v := (1 : Int32)) hx hb dX6_nudged_39 (by decide) ?_
        obtain ⟨r40, hr40, hM⟩ := h_b hM
        refine a_callV (σ' := aG r40) (v := none) (As := fun ad => [.ref (ad 2), .int (0 : Int32), .int (1 : Int32)]) (rest := []) (o := 33) C hw (c_X5_look l (wit33) (lin2) hr40) k_X5_look wM_X6_165 ⟨⟨rfl, rfl⟩, ⟨Nat.le_of_ble_eq_true rfl, Nat.le_of_ble_eq_true rfl⟩⟩ (aWit_k wit33).1 (by decide) rfl rfl rfl hl rfl (Nat.le_of_ble_eq_true rfl) dX6_nudged_40 ⟨Nat.zero_le _, Nat.zero_le _⟩ (fun H locs hw => ?_)
        refine lv_aload_n hx hb dX6_nudged_43 rfl (lv_at hl 1 rfl) ?_
        refine a_getp (q := 33) (σ := aG r40) (o := 0) (T := TX6) (N := 11) C wU_X6 hw rfl (by decide) rfl 9 (by decide) rfl wF_X6_52 (aG_P rfl rfl) dX6_nudged_44 ?_
        refine lv_iload_n hx hb dX6_nudged_47 rfl (lv_at hl 2 rfl) ?_
        refine lv_iload_n hx hb dX6_nudged_48 rfl (lv_at hl 0 rfl) ?_
        obtain ⟨r49, hr49, hM⟩ := h_b hM
        refine a_callV (σ' := aG r49.2) (v := (some (.long r49.1))) (As := fun ad => [.int x1, .int r12.1]) (rest := []) (o := 33) C hw (c_X5_casesOf l (wit33) hr49) k_X5_casesOf wM_X6_180 ⟨⟨rfl, rfl⟩, ⟨Nat.le_of_ble_eq_true rfl, Nat.le_of_ble_eq_true rfl⟩⟩ (aWit_k wit33).1 (by decide) rfl rfl rfl hl rfl (Nat.le_of_ble_eq_true rfl) dX6_nudged_49 ⟨Nat.zero_le _, Nat.zero_le _⟩ (fun H locs hw => ?_)
        refine lv_lstore_n (lv' := [(3, .long r49.1), (2, .int r12.1), (0, .ref (ad 0)), (1, .int x1)]) hx hb dX6_nudged_52 rfl hl (by decide) rfl (fun ls hl => ?_)
        refine lv_aload_n hx hb dX6_nudged_53 rfl (lv_at hl 2 rfl) ?_
        refine a_getp (q := 33) (σ := aG r49.2) (o := 0) (T := TX6) (N := 11) C wU_X6 hw rfl (by decide) rfl 9 (by decide) rfl wF_X6_52 (aG_P rfl rfl) dX6_nudged_54 ?_
        refine lv_aload_n hx hb dX6_nudged_57 rfl (lv_at hl 2 rfl) ?_
        refine a_getp (q := 2) (σ := aG r49.2) (o := 0) (T := TX6) (N := 11) C wU_X6 hw rfl (by decide) rfl 2 (by decide) rfl wF_X6_20 (aG_P rfl rfl) dX6_nudged_58 ?_
        refine lv_iconst (v := (0 : Int32)) hx hb dX6_nudged_61 (by decide) ?_
        refine lv_iconst (v := (0 : Int32)) hx hb dX6_nudged_62 (by decide) ?_
        obtain ⟨r63, hr63, hM⟩ := h_b hM
        refine a_callV (σ' := aG r63) (v := none) (As := fun ad => [.ref (ad 2), .int (0 : Int32), .int (0 : Int32)]) (rest := []) (o := 33) C hw (c_X5_look l (wit33) (lin2) hr63) k_X5_look wM_X6_165 ⟨⟨rfl, rfl⟩, ⟨Nat.le_of_ble_eq_true rfl, Nat.le_of_ble_eq_true rfl⟩⟩ (aWit_k wit33).1 (by decide) rfl rfl rfl hl rfl (Nat.le_of_ble_eq_true rfl) dX6_nudged_63 ⟨Nat.zero_le _, Nat.zero_le _⟩ (fun H locs hw => ?_)
        refine lv_aload_n hx hb dX6_nudged_66 rfl (lv_at hl 2 rfl) ?_
        refine a_getp (q := 33) (σ := aG r63) (o := 0) (T := TX6) (N := 11) C wU_X6 hw rfl (by decide) rfl 9 (by decide) rfl wF_X6_52 (aG_P rfl rfl) dX6_nudged_67 ?_
        refine lv_iload_n hx hb dX6_nudged_70 rfl (lv_at hl 3 rfl) ?_
        refine lv_iload_n hx hb dX6_nudged_71 rfl (lv_at hl 1 rfl) ?_
        obtain ⟨r72, hr72, hM⟩ := h_b hM
        refine a_callV (σ' := aG r72.2) (v := (some (.long r72.1))) (As := fun ad => [.int x1, .int r12.1]) (rest := []) (o := 33) C hw (c_X5_casesOf l (wit33) hr72) k_X5_casesOf wM_X6_180 ⟨⟨rfl, rfl⟩, ⟨Nat.le_of_ble_eq_true rfl, Nat.le_of_ble_eq_true rfl⟩⟩ (aWit_k wit33).1 (by decide) rfl rfl rfl hl rfl (Nat.le_of_ble_eq_true rfl) dX6_nudged_72 ⟨Nat.zero_le _, Nat.zero_le _⟩ (fun H locs hw => ?_)
        refine lv_lload_n hx hb dX6_nudged_75 rfl (lv_at hl 0 rfl) ?_
        refine lv_lsub hx hb dX6_nudged_76 ?_
        refine lv_lstore (lv' := [(5, .long (r72.1 - r49.1)), (3, .long r49.1), (2, .int r12.1), (0, .ref (ad 0)), (1, .int x1)]) hx hb dX6_nudged_77 hl (by decide) rfl (fun ls hl => ?_)
        refine lv_aload_n hx hb dX6_nudged_79 rfl (lv_at hl 3 rfl) ?_
        refine a_getp (q := 33) (σ := aG r72.2) (o := 0) (T := TX6) (N := 11) C wU_X6 hw rfl (by decide) rfl 9 (by decide) rfl wF_X6_52 (aG_P rfl rfl) dX6_nudged_80 ?_
        obtain ⟨r83, hr83, hM⟩ := h_b hM
        refine a_callV (σ' := aG r83.2) (v := (some (.long r83.1))) (As := fun ad => []) (rest := []) (o := 33) C hw (c_X5_allCases l (wit33) hr83) k_X5_allCases wM_X6_173 ⟨⟨rfl, rfl⟩, ⟨Nat.le_of_ble_eq_true rfl, Nat.le_of_ble_eq_true rfl⟩⟩ (aWit_k wit33).1 (by decide) rfl rfl rfl hl rfl (Nat.le_of_ble_eq_true rfl) dX6_nudged_83 ⟨Nat.zero_le _, Nat.zero_le _⟩ (fun H locs hw => ?_)
        refine lv_lstore (lv' := [(7, .long r83.1), (5, .long (r72.1 - r49.1)), (3, .long r49.1), (2, .int r12.1), (0, .ref (ad 0)), (1, .int x1)]) hx hb dX6_nudged_86 hl (by decide) rfl (fun ls hl => ?_)
        refine lv_lload hx hb dX6_nudged_88 (lv_at hl 0 rfl) ?_
        refine lv_lconst (v := (0 : Int64)) hx hb dX6_nudged_90 (by decide) ?_
        refine W.lcmp hx hb dX6_nudged_91 ?_
        refine lv_if_ne (tgt := 99) hx hb dX6_nudged_92 (by decide) (fun hc => ?_) (fun hc => ?_)
        · replace hM := h_f hc hM
          refine lv_ldc2 (v := (100 : Int64)) hx hb hown (hts _ wQ_X6_203) dX6_nudged_99 ?_
          refine lv_lload hx hb dX6_nudged_102 (lv_at hl 1 rfl) ?_
          refine lv_lmul hx hb dX6_nudged_104 ?_
          refine lv_lload hx hb dX6_nudged_105 (lv_at hl 0 rfl) ?_
          obtain ⟨hd, hM⟩ := h_g hM
          refine lv_ldiv hx hb dX6_nudged_107 hd ?_
          refine lv_l2i hx hb dX6_nudged_108 rfl ?_
          cases h_e hM
          exact x_iret C hw dX6_nudged_109
        · replace hM := h_t hc hM
          refine lv_iconst (v := (0 : Int32)) hx hb dX6_nudged_95 (by decide) ?_
          refine lv_goto (tgt := 109) hx hb dX6_nudged_96 (by decide) ?_
          cases h_e hM
          exact x_iret C hw dX6_nudged_109
    · replace hM := h_f hc hM
      refine lv_iconst (v := (1 : Int32)) hx hb dX6_nudged_22 (by decide) ?_
      refine lv_goto (tgt := 27) hx hb dX6_nudged_23 (by decide) ?_
      obtain ⟨r27, hr27, hM⟩ := h_b hM
      cases r27 with
      | inl r27t =>
        replace hM : some (Sum.inl r27t) = some res := hM
        cases h_e hM
        have q9 := c_X6_needState l hst hr27
        exact x_callT (σ' := aG r27t.2) (E := aEx r27t.1) (As := fun ad => [.int (1 : Int32)]) (rest := []) (ob := 0) C hw hout q9 k_X6_needState wM_X6_122 ⟨Nat.le_of_ble_eq_true rfl, Nat.le_of_ble_eq_true rfl⟩ rfl (by decide) rfl rfl rfl hl rfl (Nat.le_of_ble_eq_true rfl) dX6_nudged_27
      | inr r27n =>
        replace hM : (Option.bind (m_X5_look 33 2 (0 : Int32) (1 : Int32) r27n) fun r40 => Option.bind (m_X5_casesOf 33 x1 r12.1 r40) fun r49 => Option.bind (m_X5_look 33 2 (0 : Int32) (0 : Int32) r49.2) fun r63 => Option.bind (m_X5_casesOf 33 x1 r12.1 r63) fun r72 => Option.bind (m_X5_allCases 33 r72.2) fun r83 => if (lg_cmp r83.1 (0 : Int64)) = 0 then some (.inr ((0 : Int32), r83.2)) else if ¬ r83.1 = 0 then some (.inr (((((100 : Int64) * (r72.1 - r49.1)) / r83.1)).toInt32, r83.2)) else none) = some res := hM
        have q9 := c_X6_needState l hst hr27
        refine x_callN (σ' := aG r27n) (v := none) (As := fun ad => [.int (1 : Int32)]) (rest := []) (ob := 0) C hw q9 k_X6_needState wM_X6_122 ⟨Nat.le_of_ble_eq_true rfl, Nat.le_of_ble_eq_true rfl⟩ rfl (by decide) rfl rfl rfl hl rfl (Nat.le_of_ble_eq_true rfl) dX6_nudged_27 ⟨Nat.zero_le _, Nat.zero_le _⟩ (fun H locs hw => ?_)
        refine lv_aload_n hx hb dX6_nudged_30 rfl (lv_at hl 1 rfl) ?_
        refine a_getp (q := 33) (σ := aG r27n) (o := 0) (T := TX6) (N := 11) C wU_X6 hw rfl (by decide) rfl 9 (by decide) rfl wF_X6_52 (aG_P rfl rfl) dX6_nudged_31 ?_
        refine lv_aload_n hx hb dX6_nudged_34 rfl (lv_at hl 1 rfl) ?_
        refine a_getp (q := 2) (σ := aG r27n) (o := 0) (T := TX6) (N := 11) C wU_X6 hw rfl (by decide) rfl 2 (by decide) rfl wF_X6_20 (aG_P rfl rfl) dX6_nudged_35 ?_
        refine lv_iconst (v := (0 : Int32)) hx hb dX6_nudged_38 (by decide) ?_
        refine lv_iconst (v := (1 : Int32)) hx hb dX6_nudged_39 (by decide) ?_
        obtain ⟨r40, hr40, hM⟩ := h_b hM
        refine a_callV (σ' := aG r40) (v := none) (As := fun ad => [.ref (ad 2), .int (0 : Int32), .int (1 : Int32)]) (rest := []) (o := 33) C hw (c_X5_look l (wit33) (lin2) hr40) k_X5_look wM_X6_165 ⟨⟨rfl, rfl⟩, ⟨Nat.le_of_ble_eq_true rfl, Nat.le_of_ble_eq_true rfl⟩⟩ (aWit_k wit33).1 (by decide) rfl rfl rfl hl rfl (Nat.le_of_ble_eq_true rfl) dX6_nudged_40 ⟨Nat.zero_le _, Nat.zero_le _⟩ (fun H locs hw => ?_)
        refine lv_aload_n hx hb dX6_nudged_43 rfl (lv_at hl 1 rfl) ?_
        refine a_getp (q := 33) (σ := aG r40) (o := 0) (T := TX6) (N := 11) C wU_X6 hw rfl (by decide) rfl 9 (by decide) rfl wF_X6_52 (aG_P rfl rfl) dX6_nudged_44 ?_
        refine lv_iload_n hx hb dX6_nudged_47 rfl (lv_at hl 2 rfl) ?_
        refine lv_iload_n hx hb dX6_nudged_48 rfl (lv_at hl 0 rfl) ?_
        obtain ⟨r49, hr49, hM⟩ := h_b hM
        refine a_callV (σ' := aG r49.2) (v := (some (.long r49.1))) (As := fun ad => [.int x1, .int r12.1]) (rest := []) (o := 33) C hw (c_X5_casesOf l (wit33) hr49) k_X5_casesOf wM_X6_180 ⟨⟨rfl, rfl⟩, ⟨Nat.le_of_ble_eq_true rfl, Nat.le_of_ble_eq_true rfl⟩⟩ (aWit_k wit33).1 (by decide) rfl rfl rfl hl rfl (Nat.le_of_ble_eq_true rfl) dX6_nudged_49 ⟨Nat.zero_le _, Nat.zero_le _⟩ (fun H locs hw => ?_)
        refine lv_lstore_n (lv' := [(3, .long r49.1), (2, .int r12.1), (0, .ref (ad 0)), (1, .int x1)]) hx hb dX6_nudged_52 rfl hl (by decide) rfl (fun ls hl => ?_)
        refine lv_aload_n hx hb dX6_nudged_53 rfl (lv_at hl 2 rfl) ?_
        refine a_getp (q := 33) (σ := aG r49.2) (o := 0) (T := TX6) (N := 11) C wU_X6 hw rfl (by decide) rfl 9 (by decide) rfl wF_X6_52 (aG_P rfl rfl) dX6_nudged_54 ?_
        refine lv_aload_n hx hb dX6_nudged_57 rfl (lv_at hl 2 rfl) ?_
        refine a_getp (q := 2) (σ := aG r49.2) (o := 0) (T := TX6) (N := 11) C wU_X6 hw rfl (by decide) rfl 2 (by decide) rfl wF_X6_20 (aG_P rfl rfl) dX6_nudged_58 ?_
        refine lv_iconst (v := (0 : Int32)) hx hb dX6_nudged_61 (by decide) ?_
        refine lv_iconst (v := (0 : Int32)) hx hb dX6_nudged_62 (by decide) ?_
        obtain ⟨r63, hr63, hM⟩ := h_b hM
        refine a_callV (σ' := aG r63) (v := none) (As := fun ad => [.ref (ad 2), .int (0 : Int32), .int (0 : Int32)]) (rest := []) (o := 33) C hw (c_X5_look l (wit33) (lin2) hr63) k_X5_look wM_X6_165 ⟨⟨rfl, rfl⟩, ⟨Nat.le_of_ble_eq_true rfl, Nat.le_of_ble_eq_true rfl⟩⟩ (aWit_k wit33).1 (by decide) rfl rfl rfl hl rfl (Nat.le_of_ble_eq_true rfl) dX6_nudged_63 ⟨Nat.zero_le _, Nat.zero_le _⟩ (fun H locs hw => ?_)
        refine lv_aload_n hx hb dX6_nudged_66 rfl (lv_at hl 2 rfl) ?_
        refine a_getp (q := 33) (σ := aG r63) (o := 0) (T := TX6) (N := 11) C wU_X6 hw rfl (by decide) rfl 9 (by decide) rfl wF_X6_52 (aG_P rfl rfl) dX6_nudged_67 ?_
        refine lv_iload_n hx hb dX6_nudged_70 rfl (lv_at hl 3 rfl) ?_
        refine lv_iload_n hx hb dX6_nudged_71 rfl (lv_at hl 1 rfl) ?_
        obtain ⟨r72, hr72, hM⟩ := h_b hM
        refine a_callV (σ' := aG r72.2) (v := (some (.long r72.1))) (As := fun ad => [.int x1, .int r12.1]) (rest := []) (o := 33) C hw (c_X5_casesOf l (wit33) hr72) k_X5_casesOf wM_X6_180 ⟨⟨rfl, rfl⟩, ⟨Nat.le_of_ble_eq_true rfl, Nat.le_of_ble_eq_true rfl⟩⟩ (aWit_k wit33).1 (by decide) rfl rfl rfl hl rfl (Nat.le_of_ble_eq_true rfl) dX6_nudged_72 ⟨Nat.zero_le _, Nat.zero_le _⟩ (fun H locs hw => ?_)
        refine lv_lload_n hx hb dX6_nudged_75 rfl (lv_at hl 0 rfl) ?_
        refine lv_lsub hx hb dX6_nudged_76 ?_
        refine lv_lstore (lv' := [(5, .long (r72.1 - r49.1)), (3, .long r49.1), (2, .int r12.1), (0, .ref (ad 0)), (1, .int x1)]) hx hb dX6_nudged_77 hl (by decide) rfl (fun ls hl => ?_)
        refine lv_aload_n hx hb dX6_nudged_79 rfl (lv_at hl 3 rfl) ?_
        refine a_getp (q := 33) (σ := aG r72.2) (o := 0) (T := TX6) (N := 11) C wU_X6 hw rfl (by decide) rfl 9 (by decide) rfl wF_X6_52 (aG_P rfl rfl) dX6_nudged_80 ?_
        obtain ⟨r83, hr83, hM⟩ := h_b hM
        refine a_callV (σ' := aG r83.2) (v := (some (.long r83.1))) (As := fun ad => []) (rest := []) (o := 33) C hw (c_X5_allCases l (wit33) hr83) k_X5_allCases wM_X6_173 ⟨⟨rfl, rfl⟩, ⟨Nat.le_of_ble_eq_true rfl, Nat.le_of_ble_eq_true rfl⟩⟩ (aWit_k wit33).1 (by decide) rfl rfl rfl hl rfl (Nat.le_of_ble_eq_true rfl) dX6_nudged_83 ⟨Nat.zero_le _, Nat.zero_le _⟩ (fun H locs hw => ?_)
        refine lv_lstore (lv' := [(7, .long r83.1), (5, .long (r72.1 - r49.1)), (3, .long r49.1), (2, .int r12.1), (0, .ref (ad 0)), (1, .int x1)]) hx hb dX6_nudged_86 hl (by decide) rfl (fun ls hl => ?_)
        refine lv_lload hx hb dX6_nudged_88 (lv_at hl 0 rfl) ?_
        refine lv_lconst (v := (0 : Int64)) hx hb dX6_nudged_90 (by decide) ?_
        refine W.lcmp hx hb dX6_nudged_91 ?_
        refine lv_if_ne (tgt := 99) hx hb dX6_nudged_92 (by decide) (fun hc => ?_) (fun hc => ?_)
        · replace hM := h_f hc hM
          refine lv_ldc2 (v := (100 : Int64)) hx hb hown (hts _ wQ_X6_203) dX6_nudged_99 ?_
          refine lv_lload hx hb dX6_nudged_102 (lv_at hl 1 rfl) ?_
          refine lv_lmul hx hb dX6_nudged_104 ?_
          refine lv_lload hx hb dX6_nudged_105 (lv_at hl 0 rfl) ?_
          obtain ⟨hd, hM⟩ := h_g hM
          refine lv_ldiv hx hb dX6_nudged_107 hd ?_
          refine lv_l2i hx hb dX6_nudged_108 rfl ?_
          cases h_e hM
          exact x_iret C hw dX6_nudged_109
        · replace hM := h_t hc hM
          refine lv_iconst (v := (0 : Int32)) hx hb dX6_nudged_95 (by decide) ?_
          refine lv_goto (tgt := 109) hx hb dX6_nudged_96 (by decide) ?_
          cases h_e hM
          exact x_iret C hw dX6_nudged_109
