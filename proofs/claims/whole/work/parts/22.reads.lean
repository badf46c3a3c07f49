def m_X7_readsLine (ι : iS) : Option (iS) := Option.bind (m_X7_here ι) fun r1 => Option.bind (m_X7_takesOnce 3 (0 : Int32) r1.2) fun r14 => if r14.1 = 0 then Option.bind (m_X7_takes 1 r14.2) fun r38 => if r38.1 = 0 then Option.bind (m_X7_takes 2 r38.2) fun r90 => if r90.1 = 0 then Option.bind (m_X7_takesOnce 5 (1 : Int32) r90.2) fun r153 => if r153.1 = 0 then Option.bind (m_X7_takesOnce 6 (2 : Int32) r153.2) fun r178 => if r178.1 = 0 then Option.bind (m_X7_takesOnce 7 (3 : Int32) r178.2) fun r204 => if r204.1 = 0 then Option.bind (m_X7_takesOnce 8 (4 : Int32) r204.2) fun r231 => if r231.1 = 0 then Option.bind (m_X7_takesOnce 4 (5 : Int32) r231.2) fun r258 => if r258.1 = 0 then Option.bind (m_X7_wrong (1 : Int32) (gI r1.2 109 4) r258.2) fun r282 => Option.bind (m_X7_must (59 : Int32) r282) fun r288 => some r288 else Option.bind (m_X7_sum (m_X7_part 20) r258.2) fun r265 => Option.bind (m_X7_must (59 : Int32) (pI r265 113 8 (1 : Int32))) fun r288 => some r288 else Option.bind (m_X7_number (1 : Int32) (99 : Int32) r231.2) fun r247 => Option.bind (m_X7_must (59 : Int32) (pI r247.2 113 7 r247.1)) fun r288 => some r288 else Option.bind (m_X7_number (0 : Int32) (20 : Int32) r204.2) fun r220 => Option.bind (m_X7_must (59 : Int32) (pI r220.2 113 6 r220.1)) fun r288 => some r288 else Option.bind (m_X7_number (0 : Int32) (120 : Int32) r178.2) fun r193 => Option.bind (m_X7_must (59 : Int32) (pI r193.2 113 5 r193.1)) fun r288 => some r288 else Option.bind (m_X7_number (0 : Int32) (5 : Int32) r153.2) fun r167 => Option.bind (m_X7_must (59 : Int32) (pI r167.2 113 4 r167.1)) fun r288 => some r288 else Option.bind (m_X7_traitTold r90.2) fun r97 => Option.bind (m_X7_number (0 : Int32) (9 : Int32) r97.2) fun r105 => Option.bind (m_X7_number (1 : Int32) (9 : Int32) r105.2) fun r113 => Option.bind (m_X7_fine r113.2) fun r119 => if r119.1 = 0 then Option.bind (m_X7_must (59 : Int32) r119.2) fun r288 => some r288 else if aIn ((89 : Int32) + r97.1) 883 = true then if aIn ((94 : Int32) + r97.1) 883 = true then Option.bind (m_X7_must (59 : Int32) (pI (pI r119.2 113 ((89 : Int32) + r97.1).toNatClampNeg r105.1) 113 ((94 : Int32) + r97.1).toNatClampNeg r113.1)) fun r288 => some r288 else none else none else if (gI r38.2 113 1) = (15 : Int32) then Option.bind (m_X7_wrong (3 : Int32) (gI r1.2 109 4) r38.2) fun r58 => Option.bind (m_X7_must (59 : Int32) r58) fun r288 => some r288 else Option.bind (m_X7_values (gI (pI r38.2 113 1 ((gI r38.2 113 1) + (1 : Int32))) 113 1) (pI r38.2 113 1 ((gI r38.2 113 1) + (1 : Int32)))) fun r81 => Option.bind (m_X7_must (59 : Int32) r81) fun r288 => some r288 else Option.bind (m_X7_values (0 : Int32) r14.2) fun r22 => Option.bind (m_X7_must (59 : Int32) (pI r22 113 2 (1 : Int32))) fun r288 => some r288
theorem k_X7_readsLine : aCal RX7 yX7_readsLine cX7_readsLine 5 none 0 := ⟨wI_yX7_readsLine, wE_yX7_readsLine, wZ_X7, wC_yX7_readsLine, by decide +kernel⟩
def rm_X7_readsLine : Room := { frames := 103, cells := 0, slots := 0, locals := 2344 }
set_option maxHeartbeats 4000000 in
set_option maxRecDepth 100000 in
theorem c_X7_readsLine (l : Launch) {ι : iS} {res : iS} (hM : m_X7_readsLine ι = some res) : aM l yX7_readsLine cX7_readsLine 5 none rm_X7_readsLine (fun ad => [.ref (ad 109)]) (aG ι) none (aG res) := by
  refine aM.of (by decide) (fun _ => Nat.le_of_ble_eq_true rfl) ?_
  intro p e s m args below meth c D dA ad adV A ls C hw hl
  have C : aX p m c cX7_readsLine 5 s args aTs RX7 meth none := C
  have hx := C.1.1
  have hb := C.1.2.1
  have hml := C.1.2.2.1
  have hown := C.1.2.2.2.1
  have hts := C.1.2.2.2.2
  have hl : lv_has ls 5 [(0, .ref (ad 109))] := hl
  unfold m_X7_readsLine at hM
  refine lv_aload_n hx hb dX7_readsLine_0 rfl (lv_at hl 0 rfl) ?_
  obtain ⟨r1, hr1, hM⟩ := h_b hM
  refine a_callV (σ' := aG r1.2) (v := (some (.int r1.1))) (As := fun ad => []) (rest := []) (o := 109) C hw (c_X7_here l hr1) k_X7_here wM_X7_68 ⟨⟨rfl, rfl⟩, ⟨Nat.le_of_ble_eq_true rfl, Nat.le_of_ble_eq_true rfl⟩⟩ rfl (by decide) rfl rfl rfl hl rfl (Nat.le_of_ble_eq_true rfl) dX7_readsLine_1 ⟨Nat.zero_le _, Nat.zero_le _⟩ (fun H locs hw => ?_)
  refine lv_pop hx hb dX7_readsLine_4 rfl ?_
  refine lv_aload_n hx hb dX7_readsLine_5 rfl (lv_at hl 0 rfl) ?_
  refine a_geti (σ := aG r1.2) (o := 109) (T := TX7) (N := 20) C wU_X7 hw rfl (by decide) rfl 4 (by decide) rfl wF_X7_51 dX7_readsLine_6 ?_
  refine lv_istore_n (lv' := [(1, .int (gI r1.2 109 4)), (0, .ref (ad 109))]) hx hb dX7_readsLine_9 rfl hl (by decide) rfl (fun ls hl => ?_)
  refine lv_aload_n hx hb dX7_readsLine_10 rfl (lv_at hl 1 rfl) ?_
  refine a_ldcS (tx := "suspect") (q := 1000003) C hw (by decide) dX7_readsLine_11 ?_
  refine lv_iconst (v := (0 : Int32)) hx hb dX7_readsLine_13 (by decide) ?_
  obtain ⟨r14, hr14, hM⟩ := h_b hM
  refine a_callV (σ' := aG r14.2) (v := (some (.int r14.1))) (As := fun ad => [.ref (ad 1000003), .int (0 : Int32)]) (rest := []) (o := 109) C hw (c_X7_takesOnce l (by decide) hr14) k_X7_takesOnce wM_X7_144 ⟨⟨rfl, rfl⟩, ⟨Nat.le_of_ble_eq_true rfl, Nat.le_of_ble_eq_true rfl⟩⟩ rfl (by decide) rfl rfl rfl hl rfl (Nat.le_of_ble_eq_true rfl) dX7_readsLine_14 ⟨Nat.zero_le _, Nat.zero_le _⟩ (fun H locs hw => ?_)
  refine lv_if_eq (tgt := 35) hx hb dX7_readsLine_17 (by decide) (fun hc => ?_) (fun hc => ?_)
  · replace hM := h_t hc hM
    refine lv_aload_n hx hb dX7_readsLine_35 rfl (lv_at hl 1 rfl) ?_
    refine a_ldcS (tx := "filler") (q := 1000001) C hw (by decide) dX7_readsLine_36 ?_
    obtain ⟨r38, hr38, hM⟩ := h_b hM
    refine a_callV (σ' := aG r38.2) (v := (some (.int r38.1))) (As := fun ad => [.ref (ad 1000001)]) (rest := []) (o := 109) C hw (c_X7_takes l (by decide) hr38) k_X7_takes wM_X7_125 ⟨⟨rfl, rfl⟩, ⟨Nat.le_of_ble_eq_true rfl, Nat.le_of_ble_eq_true rfl⟩⟩ rfl (by decide) rfl rfl rfl hl rfl (Nat.le_of_ble_eq_true rfl) dX7_readsLine_38 ⟨Nat.zero_le _, Nat.zero_le _⟩ (fun H locs hw => ?_)
    refine lv_if_eq (tgt := 87) hx hb dX7_readsLine_41 (by decide) (fun hc => ?_) (fun hc => ?_)
    · replace hM := h_t hc hM
      refine lv_aload_n hx hb dX7_readsLine_87 rfl (lv_at hl 1 rfl) ?_
      refine a_ldcS (tx := "told") (q := 1000002) C hw (by decide) dX7_readsLine_88 ?_
      obtain ⟨r90, hr90, hM⟩ := h_b hM
      refine a_callV (σ' := aG r90.2) (v := (some (.int r90.1))) (As := fun ad => [.ref (ad 1000002)]) (rest := []) (o := 109) C hw (c_X7_takes l (by decide) hr90) k_X7_takes wM_X7_125 ⟨⟨rfl, rfl⟩, ⟨Nat.le_of_ble_eq_true rfl, Nat.le_of_ble_eq_true rfl⟩⟩ rfl (by decide) rfl rfl rfl hl rfl (Nat.le_of_ble_eq_true rfl) dX7_readsLine_90 ⟨Nat.zero_le _, Nat.zero_le _⟩ (fun H locs hw => ?_)
      refine lv_if_eq (tgt := 149) hx hb dX7_readsLine_93 (by decide) (fun hc => ?_) (fun hc => ?_)
      · replace hM := h_t hc hM
        refine lv_aload_n hx hb dX7_readsLine_149 rfl (lv_at hl 1 rfl) ?_
        refine a_ldcS (tx := "noise") (q := 1000005) C hw (by decide) dX7_readsLine_150 ?_
        refine lv_iconst (v := (1 : Int32)) hx hb dX7_readsLine_152 (by decide) ?_
        obtain ⟨r153, hr153, hM⟩ := h_b hM
        refine a_callV (σ' := aG r153.2) (v := (some (.int r153.1))) (As := fun ad => [.ref (ad 1000005), .int (1 : Int32)]) (rest := []) (o := 109) C hw (c_X7_takesOnce l (by decide) hr153) k_X7_takesOnce wM_X7_144 ⟨⟨rfl, rfl⟩, ⟨Nat.le_of_ble_eq_true rfl, Nat.le_of_ble_eq_true rfl⟩⟩ rfl (by decide) rfl rfl rfl hl rfl (Nat.le_of_ble_eq_true rfl) dX7_readsLine_153 ⟨Nat.zero_le _, Nat.zero_le _⟩ (fun H locs hw => ?_)
        refine lv_if_eq (tgt := 174) hx hb dX7_readsLine_156 (by decide) (fun hc => ?_) (fun hc => ?_)
        · replace hM := h_t hc hM
          refine lv_aload_n hx hb dX7_readsLine_174 rfl (lv_at hl 1 rfl) ?_
          refine a_ldcS (tx := "cut") (q := 1000006) C hw (by decide) dX7_readsLine_175 ?_
          refine lv_iconst (v := (2 : Int32)) hx hb dX7_readsLine_177 (by decide) ?_
          obtain ⟨r178, hr178, hM⟩ := h_b hM
          refine a_callV (σ' := aG r178.2) (v := (some (.int r178.1))) (As := fun ad => [.ref (ad 1000006), .int (2 : Int32)]) (rest := []) (o := 109) C hw (c_X7_takesOnce l (by decide) hr178) k_X7_takesOnce wM_X7_144 ⟨⟨rfl, rfl⟩, ⟨Nat.le_of_ble_eq_true rfl, Nat.le_of_ble_eq_true rfl⟩⟩ rfl (by decide) rfl rfl rfl hl rfl (Nat.le_of_ble_eq_true rfl) dX7_readsLine_178 ⟨Nat.zero_le _, Nat.zero_le _⟩ (fun H locs hw => ?_)
          refine lv_if_eq (tgt := 200) hx hb dX7_readsLine_181 (by decide) (fun hc => ?_) (fun hc => ?_)
          · replace hM := h_t hc hM
            refine lv_aload_n hx hb dX7_readsLine_200 rfl (lv_at hl 1 rfl) ?_
            refine a_ldcS (tx := "nudge") (q := 1000007) C hw (by decide) dX7_readsLine_201 ?_
            refine lv_iconst (v := (3 : Int32)) hx hb dX7_readsLine_203 (by decide) ?_
            obtain ⟨r204, hr204, hM⟩ := h_b hM
            refine a_callV (σ' := aG r204.2) (v := (some (.int r204.1))) (As := fun ad => [.ref (ad 1000007), .int (3 : Int32)]) (rest := []) (o := 109) C hw (c_X7_takesOnce l (by decide) hr204) k_X7_takesOnce wM_X7_144 ⟨⟨rfl, rfl⟩, ⟨Nat.le_of_ble_eq_true rfl, Nat.le_of_ble_eq_true rfl⟩⟩ rfl (by decide) rfl rfl rfl hl rfl (Nat.le_of_ble_eq_true rfl) dX7_readsLine_204 ⟨Nat.zero_le _, Nat.zero_le _⟩ (fun H locs hw => ?_)
            refine lv_if_eq (tgt := 227) hx hb dX7_readsLine_207 (by decide) (fun hc => ?_) (fun hc => ?_)
            · replace hM := h_t hc hM
              refine lv_aload_n hx hb dX7_readsLine_227 rfl (lv_at hl 1 rfl) ?_
              refine a_ldcS (tx := "prior") (q := 1000008) C hw (by decide) dX7_readsLine_228 ?_
              refine lv_iconst (v := (4 : Int32)) hx hb dX7_readsLine_230 (by decide) ?_
              obtain ⟨r231, hr231, hM⟩ := h_b hM
              refine a_callV (σ' := aG r231.2) (v := (some (.int r231.1))) (As := fun ad => [.ref (ad 1000008), .int (4 : Int32)]) (rest := []) (o := 109) C hw (c_X7_takesOnce l (by decide) hr231) k_X7_takesOnce wM_X7_144 ⟨⟨rfl, rfl⟩, ⟨Nat.le_of_ble_eq_true rfl, Nat.le_of_ble_eq_true rfl⟩⟩ rfl (by decide) rfl rfl rfl hl rfl (Nat.le_of_ble_eq_true rfl) dX7_readsLine_231 ⟨Nat.zero_le _, Nat.zero_le _⟩ (fun H locs hw => ?_)
              refine lv_if_eq (tgt := 254) hx hb dX7_readsLine_234 (by decide) (fun hc => ?_) (fun hc => ?_)
              · replace hM := h_t hc hM
                refine lv_aload_n hx hb dX7_readsLine_254 rfl (lv_at hl 1 rfl) ?_
                refine a_ldcS (tx := "match") (q := 1000004) C hw (by decide) dX7_readsLine_255 ?_
                refine lv_iconst (v := (5 : Int32)) hx hb dX7_readsLine_257 (by decide) ?_
                obtain ⟨r258, hr258, hM⟩ := h_b hM
                refine a_callV (σ' := aG r258.2) (v := (some (.int r258.1))) (As := fun ad => [.ref (ad 1000004), .int (5 : Int32)]) (rest := []) (o := 109) C hw (c_X7_takesOnce l (by decide) hr258) k_X7_takesOnce wM_X7_144 ⟨⟨rfl, rfl⟩, ⟨Nat.le_of_ble_eq_true rfl, Nat.le_of_ble_eq_true rfl⟩⟩ rfl (by decide) rfl rfl rfl hl rfl (Nat.le_of_ble_eq_true rfl) dX7_readsLine_258 ⟨Nat.zero_le _, Nat.zero_le _⟩ (fun H locs hw => ?_)
                refine lv_if_eq (tgt := 279) hx hb dX7_readsLine_261 (by decide) (fun hc => ?_) (fun hc => ?_)
                · replace hM := h_t hc hM
                  refine lv_aload_n hx hb dX7_readsLine_279 rfl (lv_at hl 1 rfl) ?_
                  refine lv_iconst (v := (1 : Int32)) hx hb dX7_readsLine_280 (by decide) ?_
                  refine lv_iload_n hx hb dX7_readsLine_281 rfl (lv_at hl 0 rfl) ?_
                  obtain ⟨r282, hr282, hM⟩ := h_b hM
                  refine a_callV (σ' := aG r282) (v := none) (As := fun ad => [.int (1 : Int32), .int (gI r1.2 109 4)]) (rest := []) (o := 109) C hw (c_X7_wrong l hr282) k_X7_wrong wM_X7_85 ⟨⟨rfl, rfl⟩, ⟨Nat.le_of_ble_eq_true rfl, Nat.le_of_ble_eq_true rfl⟩⟩ rfl (by decide) rfl rfl rfl hl rfl (Nat.le_of_ble_eq_true rfl) dX7_readsLine_282 ⟨Nat.zero_le _, Nat.zero_le _⟩ (fun H locs hw => ?_)
                  refine lv_aload_n hx hb dX7_readsLine_285 rfl (lv_at hl 1 rfl) ?_
                  refine lv_bipush (v := (59 : Int32)) hx hb dX7_readsLine_286 (by decide) ?_
                  obtain ⟨r288, hr288, hM⟩ := h_b hM
                  refine a_callV (σ' := aG r288) (v := none) (As := fun ad => [.int (59 : Int32)]) (rest := []) (o := 109) C hw (c_X7_must l hr288) k_X7_must wM_X7_120 ⟨⟨rfl, rfl⟩, ⟨Nat.le_of_ble_eq_true rfl, Nat.le_of_ble_eq_true rfl⟩⟩ rfl (by decide) rfl rfl rfl hl rfl (Nat.le_of_ble_eq_true rfl) dX7_readsLine_288 ⟨Nat.zero_le _, Nat.zero_le _⟩ (fun H locs hw => ?_)
                  cases h_e hM
                  exact a_vret C hw dX7_readsLine_291
                · replace hM := h_f hc hM
                  refine lv_aload_n hx hb dX7_readsLine_264 rfl (lv_at hl 1 rfl) ?_
                  obtain ⟨r265, hr265, hM⟩ := h_b hM
                  refine a_callV (σ' := aG r265) (v := none) (As := fun ad => []) (rest := []) (o := 109) C hw (c_X7_sum l (f := 40 + 3 * 20) (w := 1000 + 64 * 20) (by omega) (by omega) (fun h => c_X7_part l 20 h) hr265) k_X7_sum wM_X7_117 ⟨⟨rfl, rfl⟩, ⟨by first | (simp only [aRm, rm_X7_readsLine]; done) | (simp only [aRm, rm_X7_readsLine]; omega), by first | (simp only [aRm, rm_X7_readsLine]; done) | (simp only [aRm, rm_X7_readsLine]; omega)⟩⟩ rfl (by decide) rfl rfl rfl hl rfl (Nat.le_of_ble_eq_true rfl) dX7_readsLine_265 ⟨Nat.zero_le _, Nat.zero_le _⟩ (fun H locs hw => ?_)
                  refine lv_aload_n hx hb dX7_readsLine_268 rfl (lv_at hl 1 rfl) ?_
                  refine a_getp (q := 113) (σ := aG r265) (o := 109) (T := TX7) (N := 20) C wU_X7 hw rfl (by decide) rfl 10 (by decide) rfl wF_X7_23 (aG_P rfl rfl) dX7_readsLine_269 ?_
                  refine lv_bipush (v := (8 : Int32)) hx hb dX7_readsLine_272 (by decide) ?_
                  refine lv_iconst (v := (1 : Int32)) hx hb dX7_readsLine_274 (by decide) ?_
                  refine a_iast (σ := aG r265) (o := 113) C hw rfl (aIn_v (by decide)) (show (8 : Int32).toNatClampNeg = 8 by decide) dX7_readsLine_275 (fun H locs hw => ?_)
                  have hw : aW D dA ad adV (aG (pI r265 113 8 (1 : Int32))) A s H locs := by rw [aG_PI] at hw; exact hw
                  refine lv_goto (tgt := 285) hx hb dX7_readsLine_276 (by decide) ?_
                  refine lv_aload_n hx hb dX7_readsLine_285 rfl (lv_at hl 1 rfl) ?_
                  refine lv_bipush (v := (59 : Int32)) hx hb dX7_readsLine_286 (by decide) ?_
                  obtain ⟨r288, hr288, hM⟩ := h_b hM
                  refine a_callV (σ' := aG r288) (v := none) (As := fun ad => [.int (59 : Int32)]) (rest := []) (o := 109) C hw (c_X7_must l hr288) k_X7_must wM_X7_120 ⟨⟨rfl, rfl⟩, ⟨Nat.le_of_ble_eq_true rfl, Nat.le_of_ble_eq_true rfl⟩⟩ rfl (by decide) rfl rfl rfl hl rfl (Nat.le_of_ble_eq_true rfl) dX7_readsLine_288 ⟨Nat.zero_le _, Nat.zero_le _⟩ (fun H locs hw => ?_)
                  cases h_e hM
                  exact a_vret C hw dX7_readsLine_291
              · replace hM := h_f hc hM
                refine lv_aload_n hx hb dX7_readsLine_237 rfl (lv_at hl 1 rfl) ?_
                refine a_getp (q := 113) (σ := aG r231.2) (o := 109) (T := TX7) (N := 20) C wU_X7 hw rfl (by decide) rfl 10 (by decide) rfl wF_X7_23 (aG_P rfl rfl) dX7_readsLine_238 ?_
                refine lv_bipush (v := (7 : Int32)) hx hb dX7_readsLine_241 (by decide) ?_
                refine lv_aload_n hx hb dX7_readsLine_243 rfl (lv_at hl 1 rfl) ?_
                refine lv_iconst (v := (1 : Int32)) hx hb dX7_readsLine_244 (by decide) ?_
                refine lv_bipush (v := (99 : Int32)) hx hb dX7_readsLine_245 (by decide) ?_
                obtain ⟨r247, hr247, hM⟩ := h_b hM
                refine a_callV (σ' := aG r247.2) (v := (some (.int r247.1))) (As := fun ad => [.int (1 : Int32), .int (99 : Int32)]) (rest := [.int (7 : Int32), .ref (ad 113)]) (o := 109) C hw (c_X7_number l hr247) k_X7_number wM_X7_98 ⟨⟨rfl, rfl⟩, ⟨Nat.le_of_ble_eq_true rfl, Nat.le_of_ble_eq_true rfl⟩⟩ rfl (by decide) rfl rfl rfl hl rfl (Nat.le_of_ble_eq_true rfl) dX7_readsLine_247 ⟨Nat.zero_le _, Nat.zero_le _⟩ (fun H locs hw => ?_)
                refine a_iast (σ := aG r247.2) (o := 113) C hw rfl (aIn_v (by decide)) (show (7 : Int32).toNatClampNeg = 7 by decide) dX7_readsLine_250 (fun H locs hw => ?_)
                have hw : aW D dA ad adV (aG (pI r247.2 113 7 r247.1)) A s H locs := by rw [aG_PI] at hw; exact hw
                refine lv_goto (tgt := 285) hx hb dX7_readsLine_251 (by decide) ?_
                refine lv_aload_n hx hb dX7_readsLine_285 rfl (lv_at hl 1 rfl) ?_
                refine lv_bipush (v := (59 : Int32)) hx hb dX7_readsLine_286 (by decide) ?_
                obtain ⟨r288, hr288, hM⟩ := h_b hM
                refine a_callV (σ' := aG r288) (v := none) (As := fun ad => [.int (59 : Int32)]) (rest := []) (o := 109) C hw (c_X7_must l hr288) k_X7_must wM_X7_120 ⟨⟨rfl, rfl⟩, ⟨Nat.le_of_ble_eq_true rfl, Nat.le_of_ble_eq_true rfl⟩⟩ rfl (by decide) rfl rfl rfl hl rfl (Nat.le_of_ble_eq_true rfl) dX7_readsLine_288 ⟨Nat.zero_le _, Nat.zero_le _⟩ (fun H locs hw => ?_)
                cases h_e hM
                exact a_vret C hw dX7_readsLine_291
            · replace hM := h_f hc hM
              refine lv_aload_n hx hb dX7_readsLine_210 rfl (lv_at hl 1 rfl) ?_
              refine a_getp (q := 113) (σ := aG r204.2) (o := 109) (T := TX7) (N := 20) C wU_X7 hw rfl (by decide) rfl 10 (by decide) rfl wF_X7_23 (aG_P rfl rfl) dX7_readsLine_211 ?_
              refine lv_bipush (v := (6 : Int32)) hx hb dX7_readsLine_214 (by decide) ?_
              refine lv_aload_n hx hb dX7_readsLine_216 rfl (lv_at hl 1 rfl) ?_
              refine lv_iconst (v := (0 : Int32)) hx hb dX7_readsLine_217 (by decide) ?_
              refine lv_bipush (v := (20 : Int32)) hx hb dX7_readsLine_218 (by decide) ?_
              obtain ⟨r220, hr220, hM⟩ := h_b hM
              refine a_callV (σ' := aG r220.2) (v := (some (.int r220.1))) (As := fun ad => [.int (0 : Int32), .int (20 : Int32)]) (rest := [.int (6 : Int32), .ref (ad 113)]) (o := 109) C hw (c_X7_number l hr220) k_X7_number wM_X7_98 ⟨⟨rfl, rfl⟩, ⟨Nat.le_of_ble_eq_true rfl, Nat.le_of_ble_eq_true rfl⟩⟩ rfl (by decide) rfl rfl rfl hl rfl (Nat.le_of_ble_eq_true rfl) dX7_readsLine_220 ⟨Nat.zero_le _, Nat.zero_le _⟩ (fun H locs hw => ?_)
              refine a_iast (σ := aG r220.2) (o := 113) C hw rfl (aIn_v (by decide)) (show (6 : Int32).toNatClampNeg = 6 by decide) dX7_readsLine_223 (fun H locs hw => ?_)
              have hw : aW D dA ad adV (aG (pI r220.2 113 6 r220.1)) A s H locs := by rw [aG_PI] at hw; exact hw
              refine lv_goto (tgt := 285) hx hb dX7_readsLine_224 (by decide) ?_
              refine lv_aload_n hx hb dX7_readsLine_285 rfl (lv_at hl 1 rfl) ?_
              refine lv_bipush (v := (59 : Int32)) hx hb dX7_readsLine_286 (by decide) ?_
              obtain ⟨r288, hr288, hM⟩ := h_b hM
              refine a_callV (σ' := aG r288) (v := none) (As := fun ad => [.int (59 : Int32)]) (rest := []) (o := 109) C hw (c_X7_must l hr288) k_X7_must wM_X7_120 ⟨⟨rfl, rfl⟩, ⟨Nat.le_of_ble_eq_true rfl, Nat.le_of_ble_eq_true rfl⟩⟩ rfl (by decide) rfl rfl rfl hl rfl (Nat.le_of_ble_eq_true rfl) dX7_readsLine_288 ⟨Nat.zero_le _, Nat.zero_le _⟩ (fun H locs hw => ?_)
              cases h_e hM
              exact a_vret C hw dX7_readsLine_291
          · replace hM := h_f hc hM
            refine lv_aload_n hx hb dX7_readsLine_184 rfl (lv_at hl 1 rfl) ?_
            refine a_getp (q := 113) (σ := aG r178.2) (o := 109) (T := TX7) (N := 20) C wU_X7 hw rfl (by decide) rfl 10 (by decide) rfl wF_X7_23 (aG_P rfl rfl) dX7_readsLine_185 ?_
            refine lv_iconst (v := (5 : Int32)) hx hb dX7_readsLine_188 (by decide) ?_
            refine lv_aload_n hx hb dX7_readsLine_189 rfl (lv_at hl 1 rfl) ?_
            refine lv_iconst (v := (0 : Int32)) hx hb dX7_readsLine_190 (by decide) ?_
            refine lv_bipush (v := (120 : Int32)) hx hb dX7_readsLine_191 (by decide) ?_
            obtain ⟨r193, hr193, hM⟩ := h_b hM
            refine a_callV (σ' := aG r193.2) (v := (some (.int r193.1))) (As := fun ad => [.int (0 : Int32), .int (120 : Int32)]) (rest := [.int (5 : Int32), .ref (ad 113)]) (o := 109) C hw (c_X7_number l hr193) k_X7_number wM_X7_98 ⟨⟨rfl, rfl⟩, ⟨Nat.le_of_ble_eq_true rfl, Nat.le_of_ble_eq_true rfl⟩⟩ rfl (by decide) rfl rfl rfl hl rfl (Nat.le_of_ble_eq_true rfl) dX7_readsLine_193 ⟨Nat.zero_le _, Nat.zero_le _⟩ (fun H locs hw => ?_)
            refine a_iast (σ := aG r193.2) (o := 113) C hw rfl (aIn_v (by decide)) (show (5 : Int32).toNatClampNeg = 5 by decide) dX7_readsLine_196 (fun H locs hw => ?_)
            have hw : aW D dA ad adV (aG (pI r193.2 113 5 r193.1)) A s H locs := by rw [aG_PI] at hw; exact hw
            refine lv_goto (tgt := 285) hx hb dX7_readsLine_197 (by decide) ?_
            refine lv_aload_n hx hb dX7_readsLine_285 rfl (lv_at hl 1 rfl) ?_
            refine lv_bipush (v := (59 : Int32)) hx hb dX7_readsLine_286 (by decide) ?_
            obtain ⟨r288, hr288, hM⟩ := h_b hM
            refine a_callV (σ' := aG r288) (v := none) (As := fun ad => [.int (59 : Int32)]) (rest := []) (o := 109) C hw (c_X7_must l hr288) k_X7_must wM_X7_120 ⟨⟨rfl, rfl⟩, ⟨Nat.le_of_ble_eq_true rfl, Nat.le_of_ble_eq_true rfl⟩⟩ rfl (by decide) rfl rfl rfl hl rfl (Nat.le_of_ble_eq_true rfl) dX7_readsLine_288 ⟨Nat.zero_le _, Nat.zero_le _⟩ (fun H locs hw => ?_)
            cases h_e hM
            exact a_vret C hw dX7_readsLine_291
        · replace hM := h_f hc hM
          refine lv_aload_n hx hb dX7_readsLine_159 rfl (lv_at hl 1 rfl) ?_
          refine a_getp (q := 113) (σ := aG r153.2) (o := 109) (T := TX7) (N := 20) C wU_X7 hw rfl (by decide) rfl 10 (by decide) rfl wF_X7_23 (aG_P rfl rfl) dX7_readsLine_160 ?_
          refine lv_iconst (v := (4 : Int32)) hx hb dX7_readsLine_163 (by decide) ?_
          refine lv_aload_n hx hb dX7_readsLine_164 rfl (lv_at hl 1 rfl) ?_
          refine lv_iconst (v := (0 : Int32)) hx hb dX7_readsLine_165 (by decide) ?_
          refine lv_iconst (v := (5 : Int32)) hx hb dX7_readsLine_166 (by decide) ?_
          obtain ⟨r167, hr167, hM⟩ := h_b hM
          refine a_callV (σ' := aG r167.2) (v := (some (.int r167.1))) (As := fun ad => [.int (0 : Int32), .int (5 : Int32)]) (rest := [.int (4 : Int32), .ref (ad 113)]) (o := 109) C hw (c_X7_number l hr167) k_X7_number wM_X7_98 ⟨⟨rfl, rfl⟩, ⟨Nat.le_of_ble_eq_true rfl, Nat.le_of_ble_eq_true rfl⟩⟩ rfl (by decide) rfl rfl rfl hl rfl (Nat.le_of_ble_eq_true rfl) dX7_readsLine_167 ⟨Nat.zero_le _, Nat.zero_le _⟩ (fun H locs hw => ?_)
          refine a_iast (σ := aG r167.2) (o := 113) C hw rfl (aIn_v (by decide)) (show (4 : Int32).toNatClampNeg = 4 by decide) dX7_readsLine_170 (fun H locs hw => ?_)
          have hw : aW D dA ad adV (aG (pI r167.2 113 4 r167.1)) A s H locs := by rw [aG_PI] at hw; exact hw
          refine lv_goto (tgt := 285) hx hb dX7_readsLine_171 (by decide) ?_
          refine lv_aload_n hx hb dX7_readsLine_285 rfl (lv_at hl 1 rfl) ?_
          refine lv_bipush (v := (59 : Int32)) hx hb dX7_readsLine_286 (by decide) ?_
          obtain ⟨r288, hr288, hM⟩ := h_b hM
          refine a_callV (σ' := aG r288) (v := none) (As := fun ad => [.int (59 : Int32)]) (rest := []) (o := 109) C hw (c_X7_must l hr288) k_X7_must wM_X7_120 ⟨⟨rfl, rfl⟩, ⟨Nat.le_of_ble_eq_true rfl, Nat.le_of_ble_eq_true rfl⟩⟩ rfl (by decide) rfl rfl rfl hl rfl (Nat.le_of_ble_eq_true rfl) dX7_readsLine_288 ⟨Nat.zero_le _, Nat.zero_le _⟩ (fun H locs hw => ?_)
          cases h_e hM
          exact a_vret C hw dX7_readsLine_291
      · replace hM := h_f hc hM
        refine lv_aload_n hx hb dX7_readsLine_96 rfl (lv_at hl 1 rfl) ?_
        obtain ⟨r97, hr97, hM⟩ := h_b hM
        refine a_callV (σ' := aG r97.2) (v := (some (.int r97.1))) (As := fun ad => []) (rest := []) (o := 109) C hw (c_X7_traitTold l hr97) k_X7_traitTold wM_X7_133 ⟨⟨rfl, rfl⟩, ⟨Nat.le_of_ble_eq_true rfl, Nat.le_of_ble_eq_true rfl⟩⟩ rfl (by decide) rfl rfl rfl hl rfl (Nat.le_of_ble_eq_true rfl) dX7_readsLine_97 ⟨Nat.zero_le _, Nat.zero_le _⟩ (fun H locs hw => ?_)
        refine lv_istore_n (lv' := [(2, .int r97.1), (1, .int (gI r1.2 109 4)), (0, .ref (ad 109))]) hx hb dX7_readsLine_100 rfl hl (by decide) rfl (fun ls hl => ?_)
        refine lv_aload_n hx hb dX7_readsLine_101 rfl (lv_at hl 2 rfl) ?_
        refine lv_iconst (v := (0 : Int32)) hx hb dX7_readsLine_102 (by decide) ?_
        refine lv_bipush (v := (9 : Int32)) hx hb dX7_readsLine_103 (by decide) ?_
        obtain ⟨r105, hr105, hM⟩ := h_b hM
        refine a_callV (σ' := aG r105.2) (v := (some (.int r105.1))) (As := fun ad => [.int (0 : Int32), .int (9 : Int32)]) (rest := []) (o := 109) C hw (c_X7_number l hr105) k_X7_number wM_X7_98 ⟨⟨rfl, rfl⟩, ⟨Nat.le_of_ble_eq_true rfl, Nat.le_of_ble_eq_true rfl⟩⟩ rfl (by decide) rfl rfl rfl hl rfl (Nat.le_of_ble_eq_true rfl) dX7_readsLine_105 ⟨Nat.zero_le _, Nat.zero_le _⟩ (fun H locs hw => ?_)
        refine lv_istore_n (lv' := [(3, .int r105.1), (2, .int r97.1), (1, .int (gI r1.2 109 4)), (0, .ref (ad 109))]) hx hb dX7_readsLine_108 rfl hl (by decide) rfl (fun ls hl => ?_)
        refine lv_aload_n hx hb dX7_readsLine_109 rfl (lv_at hl 3 rfl) ?_
        refine lv_iconst (v := (1 : Int32)) hx hb dX7_readsLine_110 (by decide) ?_
        refine lv_bipush (v := (9 : Int32)) hx hb dX7_readsLine_111 (by decide) ?_
        obtain ⟨r113, hr113, hM⟩ := h_b hM
        refine a_callV (σ' := aG r113.2) (v := (some (.int r113.1))) (As := fun ad => [.int (1 : Int32), .int (9 : Int32)]) (rest := []) (o := 109) C hw (c_X7_number l hr113) k_X7_number wM_X7_98 ⟨⟨rfl, rfl⟩, ⟨Nat.le_of_ble_eq_true rfl, Nat.le_of_ble_eq_true rfl⟩⟩ rfl (by decide) rfl rfl rfl hl rfl (Nat.le_of_ble_eq_true rfl) dX7_readsLine_113 ⟨Nat.zero_le _, Nat.zero_le _⟩ (fun H locs hw => ?_)
        refine lv_istore (lv' := [(4, .int r113.1), (3, .int r105.1), (2, .int r97.1), (1, .int (gI r1.2 109 4)), (0, .ref (ad 109))]) hx hb dX7_readsLine_116 hl (by decide) rfl (fun ls hl => ?_)
        refine lv_aload_n hx hb dX7_readsLine_118 rfl (lv_at hl 4 rfl) ?_
        obtain ⟨r119, hr119, hM⟩ := h_b hM
        refine a_callV (σ' := aG r119.2) (v := (some (.int r119.1))) (As := fun ad => []) (rest := []) (o := 109) C hw (c_X7_fine l hr119) k_X7_fine wM_X7_64 ⟨⟨rfl, rfl⟩, ⟨Nat.le_of_ble_eq_true rfl, Nat.le_of_ble_eq_true rfl⟩⟩ rfl (by decide) rfl rfl rfl hl rfl (Nat.le_of_ble_eq_true rfl) dX7_readsLine_119 ⟨Nat.zero_le _, Nat.zero_le _⟩ (fun H locs hw => ?_)
        refine lv_if_eq (tgt := 146) hx hb dX7_readsLine_122 (by decide) (fun hc => ?_) (fun hc => ?_)
        · replace hM := h_t hc hM
          refine lv_goto (tgt := 285) hx hb dX7_readsLine_146 (by decide) ?_
          refine lv_aload_n hx hb dX7_readsLine_285 rfl (lv_at hl 4 rfl) ?_
          refine lv_bipush (v := (59 : Int32)) hx hb dX7_readsLine_286 (by decide) ?_
          obtain ⟨r288, hr288, hM⟩ := h_b hM
          refine a_callV (σ' := aG r288) (v := none) (As := fun ad => [.int (59 : Int32)]) (rest := []) (o := 109) C hw (c_X7_must l hr288) k_X7_must wM_X7_120 ⟨⟨rfl, rfl⟩, ⟨Nat.le_of_ble_eq_true rfl, Nat.le_of_ble_eq_true rfl⟩⟩ rfl (by decide) rfl rfl rfl hl rfl (Nat.le_of_ble_eq_true rfl) dX7_readsLine_288 ⟨Nat.zero_le _, Nat.zero_le _⟩ (fun H locs hw => ?_)
          cases h_e hM
          exact a_vret C hw dX7_readsLine_291
        · replace hM := h_f hc hM
          refine lv_aload_n hx hb dX7_readsLine_125 rfl (lv_at hl 4 rfl) ?_
          refine a_getp (q := 113) (σ := aG r119.2) (o := 109) (T := TX7) (N := 20) C wU_X7 hw rfl (by decide) rfl 10 (by decide) rfl wF_X7_23 (aG_P rfl rfl) dX7_readsLine_126 ?_
          refine lv_bipush (v := (89 : Int32)) hx hb dX7_readsLine_129 (by decide) ?_
          refine lv_iload_n hx hb dX7_readsLine_131 rfl (lv_at hl 2 rfl) ?_
          refine lv_iadd hx hb dX7_readsLine_132 ?_
          refine lv_iload_n hx hb dX7_readsLine_133 rfl (lv_at hl 1 rfl) ?_
          obtain ⟨hi, hM⟩ := h_i hM
          refine a_iast (σ := aG r119.2) (o := 113) C hw rfl hi rfl dX7_readsLine_134 (fun H locs hw => ?_)
          have hw : aW D dA ad adV (aG (pI r119.2 113 ((89 : Int32) + r97.1).toNatClampNeg r105.1)) A s H locs := by rw [aG_PI] at hw; exact hw
          refine lv_aload_n hx hb dX7_readsLine_135 rfl (lv_at hl 4 rfl) ?_
          refine a_getp (q := 113) (σ := aG (pI r119.2 113 ((89 : Int32) + r97.1).toNatClampNeg r105.1)) (o := 109) (T := TX7) (N := 20) C wU_X7 hw rfl (by decide) rfl 10 (by decide) rfl wF_X7_23 (aG_P rfl rfl) dX7_readsLine_136 ?_
          refine lv_bipush (v := (94 : Int32)) hx hb dX7_readsLine_139 (by decide) ?_
          refine lv_iload_n hx hb dX7_readsLine_141 rfl (lv_at hl 2 rfl) ?_
          refine lv_iadd hx hb dX7_readsLine_142 ?_
          refine lv_iload hx hb dX7_readsLine_143 (lv_at hl 0 rfl) ?_
          obtain ⟨hi, hM⟩ := h_i hM
          refine a_iast (σ := aG (pI r119.2 113 ((89 : Int32) + r97.1).toNatClampNeg r105.1)) (o := 113) C hw rfl hi rfl dX7_readsLine_145 (fun H locs hw => ?_)
          have hw : aW D dA ad adV (aG (pI (pI r119.2 113 ((89 : Int32) + r97.1).toNatClampNeg r105.1) 113 ((94 : Int32) + r97.1).toNatClampNeg r113.1)) A s H locs := by rw [aG_PI] at hw; exact hw
          refine lv_goto (tgt := 285) hx hb dX7_readsLine_146 (by decide) ?_
          refine lv_aload_n hx hb dX7_readsLine_285 rfl (lv_at hl 4 rfl) ?_
          refine lv_bipush (v := (59 : Int32)) hx hb dX7_readsLine_286 (by decide) ?_
          obtain ⟨r288, hr288, hM⟩ := h_b hM
          refine a_callV (σ' := aG r288) (v := none) (As := fun ad => [.int (59 : Int32)]) (rest := []) (o := 109) C hw (c_X7_must l hr288) k_X7_must wM_X7_120 ⟨⟨rfl, rfl⟩, ⟨Nat.le_of_ble_eq_true rfl, Nat.le_of_ble_eq_true rfl⟩⟩ rfl (by decide) rfl rfl rfl hl rfl (Nat.le_of_ble_eq_true rfl) dX7_readsLine_288 ⟨Nat.zero_le _, Nat.zero_le _⟩ (fun H locs hw => ?_)
          cases h_e hM
          exact a_vret C hw dX7_readsLine_291
    · replace hM := h_f hc hM
      refine lv_aload_n hx hb dX7_readsLine_44 rfl (lv_at hl 1 rfl) ?_
      refine a_getp (q := 113) (σ := aG r38.2) (o := 109) (T := TX7) (N := 20) C wU_X7 hw rfl (by decide) rfl 10 (by decide) rfl wF_X7_23 (aG_P rfl rfl) dX7_readsLine_45 ?_
      refine lv_iconst (v := (1 : Int32)) hx hb dX7_readsLine_48 (by decide) ?_
      refine a_iald (σ := aG r38.2) (o := 113) C hw rfl (aIn_v (by decide)) (show (1 : Int32).toNatClampNeg = 1 by decide) dX7_readsLine_49 ?_
      refine lv_bipush (v := (15 : Int32)) hx hb dX7_readsLine_50 (by decide) ?_
      refine lv_icmp_ne (tgt := 64) hx hb dX7_readsLine_52 (by decide) (fun hc => ?_) (fun hc => ?_)
      · replace hM := h_f hc hM
        refine lv_aload_n hx hb dX7_readsLine_64 rfl (lv_at hl 1 rfl) ?_
        refine a_getp (q := 113) (σ := aG r38.2) (o := 109) (T := TX7) (N := 20) C wU_X7 hw rfl (by decide) rfl 10 (by decide) rfl wF_X7_23 (aG_P rfl rfl) dX7_readsLine_65 ?_
        refine lv_iconst (v := (1 : Int32)) hx hb dX7_readsLine_68 (by decide) ?_
        refine lv_dup2_11 hx hb dX7_readsLine_69 rfl rfl ?_
        refine a_iald (σ := aG r38.2) (o := 113) C hw rfl (aIn_v (by decide)) (show (1 : Int32).toNatClampNeg = 1 by decide) dX7_readsLine_70 ?_
        refine lv_iconst (v := (1 : Int32)) hx hb dX7_readsLine_71 (by decide) ?_
        refine lv_iadd hx hb dX7_readsLine_72 ?_
        refine a_iast (σ := aG r38.2) (o := 113) C hw rfl (aIn_v (by decide)) (show (1 : Int32).toNatClampNeg = 1 by decide) dX7_readsLine_73 (fun H locs hw => ?_)
        have hw : aW D dA ad adV (aG (pI r38.2 113 1 ((gI r38.2 113 1) + (1 : Int32)))) A s H locs := by rw [aG_PI] at hw; exact hw
        refine lv_aload_n hx hb dX7_readsLine_74 rfl (lv_at hl 1 rfl) ?_
        refine lv_aload_n hx hb dX7_readsLine_75 rfl (lv_at hl 1 rfl) ?_
        refine a_getp (q := 113) (σ := aG (pI r38.2 113 1 ((gI r38.2 113 1) + (1 : Int32)))) (o := 109) (T := TX7) (N := 20) C wU_X7 hw rfl (by decide) rfl 10 (by decide) rfl wF_X7_23 (aG_P rfl rfl) dX7_readsLine_76 ?_
        refine lv_iconst (v := (1 : Int32)) hx hb dX7_readsLine_79 (by decide) ?_
        refine a_iald (σ := aG (pI r38.2 113 1 ((gI r38.2 113 1) + (1 : Int32)))) (o := 113) C hw rfl (aIn_v (by decide)) (show (1 : Int32).toNatClampNeg = 1 by decide) dX7_readsLine_80 ?_
        obtain ⟨r81, hr81, hM⟩ := h_b hM
        refine a_callV (σ' := aG r81) (v := none) (As := fun ad => [.int (gI (pI r38.2 113 1 ((gI r38.2 113 1) + (1 : Int32))) 113 1)]) (rest := []) (o := 109) C hw (c_X7_values l hr81) k_X7_values wM_X7_148 ⟨⟨rfl, rfl⟩, ⟨Nat.le_of_ble_eq_true rfl, Nat.le_of_ble_eq_true rfl⟩⟩ rfl (by decide) rfl rfl rfl hl rfl (Nat.le_of_ble_eq_true rfl) dX7_readsLine_81 ⟨Nat.zero_le _, Nat.zero_le _⟩ (fun H locs hw => ?_)
        refine lv_goto (tgt := 285) hx hb dX7_readsLine_84 (by decide) ?_
        refine lv_aload_n hx hb dX7_readsLine_285 rfl (lv_at hl 1 rfl) ?_
        refine lv_bipush (v := (59 : Int32)) hx hb dX7_readsLine_286 (by decide) ?_
        obtain ⟨r288, hr288, hM⟩ := h_b hM
        refine a_callV (σ' := aG r288) (v := none) (As := fun ad => [.int (59 : Int32)]) (rest := []) (o := 109) C hw (c_X7_must l hr288) k_X7_must wM_X7_120 ⟨⟨rfl, rfl⟩, ⟨Nat.le_of_ble_eq_true rfl, Nat.le_of_ble_eq_true rfl⟩⟩ rfl (by decide) rfl rfl rfl hl rfl (Nat.le_of_ble_eq_true rfl) dX7_readsLine_288 ⟨Nat.zero_le _, Nat.zero_le _⟩ (fun H locs hw => ?_)
        cases h_e hM
        exact a_vret C hw dX7_readsLine_291
      · replace hM := h_t hc hM
        refine lv_aload_n hx hb dX7_readsLine_55 rfl (lv_at hl 1 rfl) ?_
        refine lv_iconst (v := (3 : Int32)) hx hb dX7_readsLine_56 (by decide) ?_
        refine lv_iload_n hx hb dX7_readsLine_57 rfl (lv_at hl 0 rfl) ?_
        obtain ⟨r58, hr58, hM⟩ := h_b hM
        refine a_callV (σ' := aG r58) (v := none) (As := fun ad => [.int (3 : Int32), .int (gI r1.2 109 4)]) (rest := []) (o := 109) C hw (c_X7_wrong l hr58) k_X7_wrong wM_X7_85 ⟨⟨rfl, rfl⟩, ⟨Nat.le_of_ble_eq_true rfl, Nat.le_of_ble_eq_true rfl⟩⟩ rfl (by decide) rfl rfl rfl hl rfl (Nat.le_of_ble_eq_true rfl) dX7_readsLine_58 ⟨Nat.zero_le _, Nat.zero_le _⟩ (fun H locs hw => ?_)
        refine lv_goto (tgt := 285) hx hb dX7_readsLine_61 (by decide) ?_
        refine lv_aload_n hx hb dX7_readsLine_285 rfl (lv_at hl 1 rfl) ?_
        refine lv_bipush (v := (59 : Int32)) hx hb dX7_readsLine_286 (by decide) ?_
        obtain ⟨r288, hr288, hM⟩ := h_b hM
        refine a_callV (σ' := aG r288) (v := none) (As := fun ad => [.int (59 : Int32)]) (rest := []) (o := 109) C hw (c_X7_must l hr288) k_X7_must wM_X7_120 ⟨⟨rfl, rfl⟩, ⟨Nat.le_of_ble_eq_true rfl, Nat.le_of_ble_eq_true rfl⟩⟩ rfl (by decide) rfl rfl rfl hl rfl (Nat.le_of_ble_eq_true rfl) dX7_readsLine_288 ⟨Nat.zero_le _, Nat.zero_le _⟩ (fun H locs hw => ?_)
        cases h_e hM
        exact a_vret C hw dX7_readsLine_291
  · replace hM := h_f hc hM
    refine lv_aload_n hx hb dX7_readsLine_20 rfl (lv_at hl 1 rfl) ?_
    refine lv_iconst (v := (0 : Int32)) hx hb dX7_readsLine_21 (by decide) ?_
    obtain ⟨r22, hr22, hM⟩ := h_b hM
    refine a_callV (σ' := aG r22) (v := none) (As := fun ad => [.int (0 : Int32)]) (rest := []) (o := 109) C hw (c_X7_values l hr22) k_X7_values wM_X7_148 ⟨⟨rfl, rfl⟩, ⟨Nat.le_of_ble_eq_true rfl, Nat.le_of_ble_eq_true rfl⟩⟩ rfl (by decide) rfl rfl rfl hl rfl (Nat.le_of_ble_eq_true rfl) dX7_readsLine_22 ⟨Nat.zero_le _, Nat.zero_le _⟩ (fun H locs hw => ?_)
    refine lv_aload_n hx hb dX7_readsLine_25 rfl (lv_at hl 1 rfl) ?_
    refine a_getp (q := 113) (σ := aG r22) (o := 109) (T := TX7) (N := 20) C wU_X7 hw rfl (by decide) rfl 10 (by decide) rfl wF_X7_23 (aG_P rfl rfl) dX7_readsLine_26 ?_
    refine lv_iconst (v := (2 : Int32)) hx hb dX7_readsLine_29 (by decide) ?_
    refine lv_iconst (v := (1 : Int32)) hx hb dX7_readsLine_30 (by decide) ?_
    refine a_iast (σ := aG r22) (o := 113) C hw rfl (aIn_v (by decide)) (show (2 : Int32).toNatClampNeg = 2 by decide) dX7_readsLine_31 (fun H locs hw => ?_)
    have hw : aW D dA ad adV (aG (pI r22 113 2 (1 : Int32))) A s H locs := by rw [aG_PI] at hw; exact hw
    refine lv_goto (tgt := 285) hx hb dX7_readsLine_32 (by decide) ?_
    refine lv_aload_n hx hb dX7_readsLine_285 rfl (lv_at hl 1 rfl) ?_
    refine lv_bipush (v := (59 : Int32)) hx hb dX7_readsLine_286 (by decide) ?_
    obtain ⟨r288, hr288, hM⟩ := h_b hM
    refine a_callV (σ' := aG r288) (v := none) (As := fun ad => [.int (59 : Int32)]) (rest := []) (o := 109) C hw (c_X7_must l hr288) k_X7_must wM_X7_120 ⟨⟨rfl, rfl⟩, ⟨Nat.le_of_ble_eq_true rfl, Nat.le_of_ble_eq_true rfl⟩⟩ rfl (by decide) rfl rfl rfl hl rfl (Nat.le_of_ble_eq_true rfl) dX7_readsLine_288 ⟨Nat.zero_le _, Nat.zero_le _⟩ (fun H locs hw => ?_)
    cases h_e hM
    exact a_vret C hw dX7_readsLine_291
