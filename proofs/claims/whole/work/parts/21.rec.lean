def l_X7_product_4 (F : iS → Option (iS)) : Nat → iS → Option (iS)
  | 0, _ => none
  | n + 1, ι => Option.bind (m_X7_fine ι) fun r5 => if r5.1 = 0 then some r5.2 else Option.bind (m_X7_here r5.2) fun r12 => if r12.1 = (42 : Int32) then Option.bind (F (pI r12.2 109 4 ((gI r12.2 109 4) + (1 : Int32)))) fun r31 => Option.bind (m_X7_tells (7 : Int32) r31) fun r37 => l_X7_product_4 F n r37 else some r12.2
def m_X7_product (F : iS → Option (iS)) (ι : iS) : Option (iS) := Option.bind (F ι) fun r1 => l_X7_product_4 F aF r1
def l_X7_sum_4 (F : iS → Option (iS)) : Nat → iS → Option (iS)
  | 0, _ => none
  | n + 1, ι => Option.bind (m_X7_fine ι) fun r5 => if r5.1 = 0 then some r5.2 else Option.bind (m_X7_here r5.2) fun r12 => if r12.1 = (43 : Int32) then Option.bind (m_X7_here r12.2) fun r30 => Option.bind (m_X7_product F (pI r30.2 109 4 ((gI r30.2 109 4) + (1 : Int32)))) fun r45 => if r30.1 = (43 : Int32) then Option.bind (m_X7_tells (5 : Int32) r45) fun r61 => l_X7_sum_4 F n r61 else Option.bind (m_X7_tells (6 : Int32) r45) fun r61 => l_X7_sum_4 F n r61 else Option.bind (m_X7_here r12.2) fun r21 => if r21.1 = (45 : Int32) then Option.bind (m_X7_here r21.2) fun r30 => Option.bind (m_X7_product F (pI r30.2 109 4 ((gI r30.2 109 4) + (1 : Int32)))) fun r45 => if r30.1 = (43 : Int32) then Option.bind (m_X7_tells (5 : Int32) r45) fun r61 => l_X7_sum_4 F n r61 else Option.bind (m_X7_tells (6 : Int32) r45) fun r61 => l_X7_sum_4 F n r61 else some r21.2
def m_X7_sum (F : iS → Option (iS)) (ι : iS) : Option (iS) := Option.bind (m_X7_product F ι) fun r1 => l_X7_sum_4 F aF r1
def m_X7_part : Nat → iS → Option (iS)
  | 0, _ => none
  | d + 1, ι => Option.bind (m_X7_fine ι) fun r1 => if r1.1 = 0 then some r1.2 else Option.bind (m_X7_here r1.2) fun r9 => if r9.1 = (45 : Int32) then Option.bind (m_X7_opens r9.2) fun r20 => Option.bind (m_X7_part d r20) fun r24 => Option.bind (m_X7_tells (8 : Int32) r24) fun r30 => some (pI r30 109 14 ((gI r30 109 14) - (1 : Int32))) else if r9.1 = (40 : Int32) then Option.bind (m_X7_opens r9.2) fun r51 => Option.bind (m_X7_sum (m_X7_part d) r51) fun r55 => Option.bind (m_X7_must (41 : Int32) r55) fun r61 => some (pI r61 109 14 ((gI r61 109 14) - (1 : Int32))) else Option.bind (m_X7_isDigit r9.1 r9.2) fun r76 => if r76.1 = 0 then Option.bind (m_X7_takes 9 r76.2) fun r89 => if r89.1 = 0 then Option.bind (m_X7_takes 10 r89.2) fun r102 => if r102.1 = 0 then Option.bind (m_X7_takes 11 r102.2) fun r115 => if r115.1 = 0 then Option.bind (m_X7_wrong (1 : Int32) (gI r115.2 109 4) r115.2) fun r137 => Option.bind (m_X7_traitTold r137) fun r156 => Option.bind (m_X7_tells (0 : Int32) r156.2) fun r162 => Option.bind (m_X7_tells r156.1 r162) fun r167 => some r167 else Option.bind (m_X7_traitTold r115.2) fun r156 => Option.bind (m_X7_tells (4 : Int32) r156.2) fun r162 => Option.bind (m_X7_tells r156.1 r162) fun r167 => some r167 else Option.bind (m_X7_traitTold r102.2) fun r156 => Option.bind (m_X7_tells (3 : Int32) r156.2) fun r162 => Option.bind (m_X7_tells r156.1 r162) fun r167 => some r167 else Option.bind (m_X7_traitTold r89.2) fun r156 => Option.bind (m_X7_tells (2 : Int32) r156.2) fun r162 => Option.bind (m_X7_tells r156.1 r162) fun r167 => some r167 else Option.bind (m_X7_number (0 : Int32) (99 : Int32) r76.2) fun r149 => Option.bind (m_X7_tells (1 : Int32) r149.2) fun r162 => Option.bind (m_X7_tells r149.1 r162) fun r167 => some r167
def l_X0_addFillers_17 (F : Int32 → Int32 → Int32 → Int64 → Int64 → iS → Option (iS)) : Nat → Int32 → Int32 → Int32 → Int64 → Int64 → Int32 → iS → Option (iS)
  | 0, _, _, _, _, _, _, _ => none
  | n + 1, y1, y2, y3, y4, y6, y8, ι => if (gI ι 35 4) < (y8 + y2) then some ι else if aIn y8 16 = true then Option.bind (F (y8 + (1 : Int32)) (y2 - (1 : Int32)) (y3 ||| ((1 : Int32) <<< (y8 &&& 31))) (y4 + ((gI ι 36 y8.toNatClampNeg)).toInt64) (y6 + (((gI ι 36 y8.toNatClampNeg)).toInt64 * ((gI ι 36 y8.toNatClampNeg)).toInt64)) ι) fun r65 => l_X0_addFillers_17 F n y1 y2 y3 y4 y6 (y8 + 1) r65 else none
def m_X0_addFillers : Nat → Int32 → Int32 → Int32 → Int64 → Int64 → iS → Option (iS)
  | 0, _, _, _, _, _, _ => none
  | d + 1, x1, x2, x3, x4, x5, ι => if 0 < x2 then l_X0_addFillers_17 (m_X0_addFillers d) aF x1 x2 x3 x4 x5 x1 ι else Option.bind (m_X0_weigh x3 x4 x5 ι) fun r10 => some r10
theorem k_X7_product : aCal RX7 yX7_product cX7_product 1 none 0 := ⟨wI_yX7_product, wE_yX7_product, wZ_X7, wC_yX7_product, by decide +kernel⟩
theorem k_X7_sum : aCal RX7 yX7_sum cX7_sum 2 none 0 := ⟨wI_yX7_sum, wE_yX7_sum, wZ_X7, wC_yX7_sum, by decide +kernel⟩
theorem k_X7_part : aCal RX7 yX7_part cX7_part 4 none 0 := ⟨wI_yX7_part, wE_yX7_part, wZ_X7, wC_yX7_part, by decide +kernel⟩
theorem k_X0_addFillers : aCal RX0 yX0_addFillers cX0_addFillers 11 none 5 := ⟨wI_yX0_addFillers, wE_yX0_addFillers, wZ_X0, wC_yX0_addFillers, by decide +kernel⟩
set_option maxHeartbeats 400000 in
set_option maxRecDepth 100000 in
theorem tl_X7_product_4 (l : Launch) {p : Program} {e : Env} {s : State} {m : MethodId} {args : Array Value} {below : List Frame} {meth : Method} {c : Code} {D : va_G} {dA : Nat → ClassId} {ad adV : Nat → Nat} {A : Nat → Prop} (C : aX p m c cX7_product 1 s args aTs RX7 meth none) {F : iS → Option (iS)} {f w : Nat} (hf : 40 ≤ f) (hw9 : 1000 ≤ w) (hF : ∀ {ι : iS} {res : iS}, F ι = some res → aM l yX7_part cX7_part 4 none (aRm f w) (fun ad => [.ref (ad 109)]) (aG ι) none (aG res)) {res : iS} : ∀ (n : Nat) {ι : iS}, l_X7_product_4 F n ι = some res → ∀ {H : Heap} {locs : List Loc} {ls : Array Slot}, aW D dA ad adV (aG ι) A s H locs → lv_has ls 1 [(0, .ref (ad 109))] → W p l e (aRm (f + 1) (w + 23)) s m args below meth c H locs 0 0 (MQ below (aQ D dA ad (aG res) A none) args s 0 0 A) (F0 m 4 ls []) := by
  have hx := C.1.1
  have hb := C.1.2.1
  have hml := C.1.2.2.1
  have hown := C.1.2.2.2.1
  have hts := C.1.2.2.2.2
  intro n
  induction n with
  | zero => intro ι hM; simp [l_X7_product_4] at hM
  | succ n ih =>
    intro ι hM H locs ls hw hl
    rw [l_X7_product_4] at hM
    refine lv_aload_n hx hb dX7_product_4 rfl (lv_at hl 0 rfl) ?_
    obtain ⟨r5, hr5, hM⟩ := h_b hM
    refine a_callV (σ' := aG r5.2) (v := (some (.int r5.1))) (As := fun ad => []) (rest := []) (o := 109) C hw (c_X7_fine l hr5) k_X7_fine wM_X7_64 ⟨⟨rfl, rfl⟩, ⟨by simp only [rm_X7_fine, aRm]; omega, by simp only [rm_X7_fine, aRm]; omega⟩⟩ rfl (by decide) rfl rfl rfl hl rfl (Nat.le_of_ble_eq_true rfl) dX7_product_5 ⟨Nat.zero_le _, Nat.zero_le _⟩ (fun H locs hw => ?_)
    refine lv_if_eq (tgt := 43) hx hb dX7_product_8 (by decide) (fun hc => ?_) (fun hc => ?_)
    · replace hM := h_t hc hM
      cases h_e hM
      exact a_vret C hw dX7_product_43
    · replace hM := h_f hc hM
      refine lv_aload_n hx hb dX7_product_11 rfl (lv_at hl 0 rfl) ?_
      obtain ⟨r12, hr12, hM⟩ := h_b hM
      refine a_callV (σ' := aG r12.2) (v := (some (.int r12.1))) (As := fun ad => []) (rest := []) (o := 109) C hw (c_X7_here l hr12) k_X7_here wM_X7_68 ⟨⟨rfl, rfl⟩, ⟨by simp only [rm_X7_here, aRm]; omega, by simp only [rm_X7_here, aRm]; omega⟩⟩ rfl (by decide) rfl rfl rfl hl rfl (Nat.le_of_ble_eq_true rfl) dX7_product_12 ⟨Nat.zero_le _, Nat.zero_le _⟩ (fun H locs hw => ?_)
      refine lv_bipush (v := (42 : Int32)) hx hb dX7_product_15 (by decide) ?_
      refine lv_icmp_ne (tgt := 43) hx hb dX7_product_17 (by decide) (fun hc => ?_) (fun hc => ?_)
      · replace hM := h_f hc hM
        cases h_e hM
        exact a_vret C hw dX7_product_43
      · replace hM := h_t hc hM
        refine lv_aload_n hx hb dX7_product_20 rfl (lv_at hl 0 rfl) ?_
        refine lv_dup hx hb dX7_product_21 rfl ?_
        refine a_geti (σ := aG r12.2) (o := 109) (T := TX7) (N := 20) C wU_X7 hw rfl (by decide) rfl 4 (by decide) rfl wF_X7_51 dX7_product_22 ?_
        refine lv_iconst (v := (1 : Int32)) hx hb dX7_product_25 (by decide) ?_
        refine lv_iadd hx hb dX7_product_26 ?_
        refine a_puti (ty := .int) (σ := aG r12.2) (o := 109) (T := TX7) (N := 20) (ty0 := tyX7) C wU_X7 tyX7_ok nmX7 hw rfl (by decide) rfl 4 (by decide) rfl wF_X7_51 rfl (by decide +kernel) rfl rfl dX7_product_27 (fun H locs hw => ?_)
        have hw : aW D dA ad adV (aG (pI r12.2 109 4 ((gI r12.2 109 4) + (1 : Int32)))) A s H locs := hw
        refine lv_aload_n hx hb dX7_product_30 rfl (lv_at hl 0 rfl) ?_
        obtain ⟨r31, hr31, hM⟩ := h_b hM
        refine a_callV (σ' := aG r31) (v := none) (As := fun ad => []) (rest := []) (o := 109) C hw (hF hr31) k_X7_part wM_X7_110 ⟨⟨rfl, rfl⟩, ⟨by simp only [aRm]; omega, by simp only [aRm]; omega⟩⟩ rfl (by decide) rfl rfl rfl hl rfl (Nat.le_of_ble_eq_true rfl) dX7_product_31 ⟨Nat.zero_le _, Nat.zero_le _⟩ (fun H locs hw => ?_)
        refine lv_aload_n hx hb dX7_product_34 rfl (lv_at hl 0 rfl) ?_
        refine lv_bipush (v := (7 : Int32)) hx hb dX7_product_35 (by decide) ?_
        obtain ⟨r37, hr37, hM⟩ := h_b hM
        refine a_callV (σ' := aG r37) (v := none) (As := fun ad => [.int (7 : Int32)]) (rest := []) (o := 109) C hw (c_X7_tells l hr37) k_X7_tells wM_X7_113 ⟨⟨rfl, rfl⟩, ⟨by simp only [rm_X7_tells, aRm]; omega, by simp only [rm_X7_tells, aRm]; omega⟩⟩ rfl (by decide) rfl rfl rfl hl rfl (Nat.le_of_ble_eq_true rfl) dX7_product_37 ⟨Nat.zero_le _, Nat.zero_le _⟩ (fun H locs hw => ?_)
        refine lv_goto (tgt := 4) hx hb dX7_product_40 (by decide) ?_
        exact ih hM hw (lv_sub hl [0] rfl)
set_option maxHeartbeats 400000 in
set_option maxRecDepth 100000 in
theorem c_X7_product (l : Launch) {F : iS → Option (iS)} {f w : Nat} (hf : 40 ≤ f) (hw9 : 1000 ≤ w) (hF : ∀ {ι : iS} {res : iS}, F ι = some res → aM l yX7_part cX7_part 4 none (aRm f w) (fun ad => [.ref (ad 109)]) (aG ι) none (aG res)) {ι : iS} {res : iS} (hM : m_X7_product F ι = some res) : aM l yX7_product cX7_product 1 none (aRm (f + 1) (w + 23)) (fun ad => [.ref (ad 109)]) (aG ι) none (aG res) := by
  refine aM.of (by decide) (fun _ => Nat.le_of_ble_eq_true rfl) ?_
  intro p e s m args below meth c D dA ad adV A ls C hw hl
  have C : aX p m c cX7_product 1 s args aTs RX7 meth none := C
  have hx := C.1.1
  have hb := C.1.2.1
  have hml := C.1.2.2.1
  have hown := C.1.2.2.2.1
  have hts := C.1.2.2.2.2
  have hl : lv_has ls 1 [(0, .ref (ad 109))] := hl
  unfold m_X7_product at hM
  refine lv_aload_n hx hb dX7_product_0 rfl (lv_at hl 0 rfl) ?_
  obtain ⟨r1, hr1, hM⟩ := h_b hM
  refine a_callV (σ' := aG r1) (v := none) (As := fun ad => []) (rest := []) (o := 109) C hw (hF hr1) k_X7_part wM_X7_110 ⟨⟨rfl, rfl⟩, ⟨by simp only [aRm]; omega, by simp only [aRm]; omega⟩⟩ rfl (by decide) rfl rfl rfl hl rfl (Nat.le_of_ble_eq_true rfl) dX7_product_1 ⟨Nat.zero_le _, Nat.zero_le _⟩ (fun H locs hw => ?_)
  exact tl_X7_product_4 l C hf hw9 (fun h => hF h) aF hM hw (lv_sub hl [0] rfl)
set_option maxHeartbeats 400000 in
set_option maxRecDepth 100000 in
theorem tl_X7_sum_4 (l : Launch) {p : Program} {e : Env} {s : State} {m : MethodId} {args : Array Value} {below : List Frame} {meth : Method} {c : Code} {D : va_G} {dA : Nat → ClassId} {ad adV : Nat → Nat} {A : Nat → Prop} (C : aX p m c cX7_sum 2 s args aTs RX7 meth none) {F : iS → Option (iS)} {f w : Nat} (hf : 40 ≤ f) (hw9 : 1000 ≤ w) (hF : ∀ {ι : iS} {res : iS}, F ι = some res → aM l yX7_part cX7_part 4 none (aRm f w) (fun ad => [.ref (ad 109)]) (aG ι) none (aG res)) {res : iS} : ∀ (n : Nat) {ι : iS}, l_X7_sum_4 F n ι = some res → ∀ {H : Heap} {locs : List Loc} {ls : Array Slot}, aW D dA ad adV (aG ι) A s H locs → lv_has ls 2 [(0, .ref (ad 109))] → W p l e (aRm (f + 2) (w + 43)) s m args below meth c H locs 0 0 (MQ below (aQ D dA ad (aG res) A none) args s 0 0 A) (F0 m 4 ls []) := by
  have hx := C.1.1
  have hb := C.1.2.1
  have hml := C.1.2.2.1
  have hown := C.1.2.2.2.1
  have hts := C.1.2.2.2.2
  intro n
  induction n with
  | zero => intro ι hM; simp [l_X7_sum_4] at hM
  | succ n ih =>
    intro ι hM H locs ls hw hl
    rw [l_X7_sum_4] at hM
    refine lv_aload_n hx hb dX7_sum_4 rfl (lv_at hl 0 rfl) ?_
    obtain ⟨r5, hr5, hM⟩ := h_b hM
    refine a_callV (σ' := aG r5.2) (v := (some (.int r5.1))) (As := fun ad => []) (rest := []) (o := 109) C hw (c_X7_fine l hr5) k_X7_fine wM_X7_64 ⟨⟨rfl, rfl⟩, ⟨by simp only [rm_X7_fine, aRm]; omega, by simp only [rm_X7_fine, aRm]; omega⟩⟩ rfl (by decide) rfl rfl rfl hl rfl (Nat.le_of_ble_eq_true rfl) dX7_sum_5 ⟨Nat.zero_le _, Nat.zero_le _⟩ (fun H locs hw => ?_)
    refine lv_if_eq (tgt := 67) hx hb dX7_sum_8 (by decide) (fun hc => ?_) (fun hc => ?_)
    · replace hM := h_t hc hM
      cases h_e hM
      exact a_vret C hw dX7_sum_67
    · replace hM := h_f hc hM
      refine lv_aload_n hx hb dX7_sum_11 rfl (lv_at hl 0 rfl) ?_
      obtain ⟨r12, hr12, hM⟩ := h_b hM
      refine a_callV (σ' := aG r12.2) (v := (some (.int r12.1))) (As := fun ad => []) (rest := []) (o := 109) C hw (c_X7_here l hr12) k_X7_here wM_X7_68 ⟨⟨rfl, rfl⟩, ⟨by simp only [rm_X7_here, aRm]; omega, by simp only [rm_X7_here, aRm]; omega⟩⟩ rfl (by decide) rfl rfl rfl hl rfl (Nat.le_of_ble_eq_true rfl) dX7_sum_12 ⟨Nat.zero_le _, Nat.zero_le _⟩ (fun H locs hw => ?_)
      refine lv_bipush (v := (43 : Int32)) hx hb dX7_sum_15 (by decide) ?_
      refine lv_icmp_eq (tgt := 29) hx hb dX7_sum_17 (by decide) (fun hc => ?_) (fun hc => ?_)
      · replace hM := h_t hc hM
        refine lv_aload_n hx hb dX7_sum_29 rfl (lv_at hl 0 rfl) ?_
        obtain ⟨r30, hr30, hM⟩ := h_b hM
        refine a_callV (σ' := aG r30.2) (v := (some (.int r30.1))) (As := fun ad => []) (rest := []) (o := 109) C hw (c_X7_here l hr30) k_X7_here wM_X7_68 ⟨⟨rfl, rfl⟩, ⟨by simp only [rm_X7_here, aRm]; omega, by simp only [rm_X7_here, aRm]; omega⟩⟩ rfl (by decide) rfl rfl rfl hl rfl (Nat.le_of_ble_eq_true rfl) dX7_sum_30 ⟨Nat.zero_le _, Nat.zero_le _⟩ (fun H locs hw => ?_)
        refine lv_istore_n (lv' := [(1, .int r30.1), (0, .ref (ad 109))]) hx hb dX7_sum_33 rfl hl (by decide) rfl (fun ls hl => ?_)
        refine lv_aload_n hx hb dX7_sum_34 rfl (lv_at hl 1 rfl) ?_
        refine lv_dup hx hb dX7_sum_35 rfl ?_
        refine a_geti (σ := aG r30.2) (o := 109) (T := TX7) (N := 20) C wU_X7 hw rfl (by decide) rfl 4 (by decide) rfl wF_X7_51 dX7_sum_36 ?_
        refine lv_iconst (v := (1 : Int32)) hx hb dX7_sum_39 (by decide) ?_
        refine lv_iadd hx hb dX7_sum_40 ?_
        refine a_puti (ty := .int) (σ := aG r30.2) (o := 109) (T := TX7) (N := 20) (ty0 := tyX7) C wU_X7 tyX7_ok nmX7 hw rfl (by decide) rfl 4 (by decide) rfl wF_X7_51 rfl (by decide +kernel) rfl rfl dX7_sum_41 (fun H locs hw => ?_)
        have hw : aW D dA ad adV (aG (pI r30.2 109 4 ((gI r30.2 109 4) + (1 : Int32)))) A s H locs := hw
        refine lv_aload_n hx hb dX7_sum_44 rfl (lv_at hl 1 rfl) ?_
        obtain ⟨r45, hr45, hM⟩ := h_b hM
        refine a_callV (σ' := aG r45) (v := none) (As := fun ad => []) (rest := []) (o := 109) C hw (c_X7_product l hf hw9 (fun h => hF h) hr45) k_X7_product wM_X7_136 ⟨⟨rfl, rfl⟩, ⟨by simp only [aRm]; omega, by simp only [aRm]; omega⟩⟩ rfl (by decide) rfl rfl rfl hl rfl (Nat.le_of_ble_eq_true rfl) dX7_sum_45 ⟨Nat.zero_le _, Nat.zero_le _⟩ (fun H locs hw => ?_)
        refine lv_aload_n hx hb dX7_sum_48 rfl (lv_at hl 1 rfl) ?_
        refine lv_iload_n hx hb dX7_sum_49 rfl (lv_at hl 0 rfl) ?_
        refine lv_bipush (v := (43 : Int32)) hx hb dX7_sum_50 (by decide) ?_
        refine lv_icmp_ne (tgt := 59) hx hb dX7_sum_52 (by decide) (fun hc => ?_) (fun hc => ?_)
        · replace hM := h_f hc hM
          refine lv_bipush (v := (6 : Int32)) hx hb dX7_sum_59 (by decide) ?_
          obtain ⟨r61, hr61, hM⟩ := h_b hM
          refine a_callV (σ' := aG r61) (v := none) (As := fun ad => [.int (6 : Int32)]) (rest := []) (o := 109) C hw (c_X7_tells l hr61) k_X7_tells wM_X7_113 ⟨⟨rfl, rfl⟩, ⟨by simp only [rm_X7_tells, aRm]; omega, by simp only [rm_X7_tells, aRm]; omega⟩⟩ rfl (by decide) rfl rfl rfl hl rfl (Nat.le_of_ble_eq_true rfl) dX7_sum_61 ⟨Nat.zero_le _, Nat.zero_le _⟩ (fun H locs hw => ?_)
          refine lv_goto (tgt := 4) hx hb dX7_sum_64 (by decide) ?_
          exact ih hM hw (lv_sub hl [1] rfl)
        · replace hM := h_t hc hM
          refine lv_iconst (v := (5 : Int32)) hx hb dX7_sum_55 (by decide) ?_
          refine lv_goto (tgt := 61) hx hb dX7_sum_56 (by decide) ?_
          obtain ⟨r61, hr61, hM⟩ := h_b hM
          refine a_callV (σ' := aG r61) (v := none) (As := fun ad => [.int (5 : Int32)]) (rest := []) (o := 109) C hw (c_X7_tells l hr61) k_X7_tells wM_X7_113 ⟨⟨rfl, rfl⟩, ⟨by simp only [rm_X7_tells, aRm]; omega, by simp only [rm_X7_tells, aRm]; omega⟩⟩ rfl (by decide) rfl rfl rfl hl rfl (Nat.le_of_ble_eq_true rfl) dX7_sum_61 ⟨Nat.zero_le _, Nat.zero_le _⟩ (fun H locs hw => ?_)
          refine lv_goto (tgt := 4) hx hb dX7_sum_64 (by decide) ?_
          exact ih hM hw (lv_sub hl [1] rfl)
      · replace hM := h_f hc hM
        refine lv_aload_n hx hb dX7_sum_20 rfl (lv_at hl 0 rfl) ?_
        obtain ⟨r21, hr21, hM⟩ := h_b hM
        refine a_callV (σ' := aG r21.2) (v := (some (.int r21.1))) (As := fun ad => []) (rest := []) (o := 109) C hw (c_X7_here l hr21) k_X7_here wM_X7_68 ⟨⟨rfl, rfl⟩, ⟨by simp only [rm_X7_here, aRm]; omega, by simp only [rm_X7_here, aRm]; omega⟩⟩ rfl (by decide) rfl rfl rfl hl rfl (Nat.le_of_ble_eq_true rfl) dX7_sum_21 ⟨Nat.zero_le _, Nat.zero_le _⟩ (fun H locs hw => ?_)
        refine lv_bipush (v := (45 : Int32)) hx hb dX7_sum_24 (by decide) ?_
        refine lv_icmp_ne (tgt := 67) hx hb dX7_sum_26 (by decide) (fun hc => ?_) (fun hc => ?_)
        · replace hM := h_f hc hM
          cases h_e hM
          exact a_vret C hw dX7_sum_67
        · replace hM := h_t hc hM
          refine lv_aload_n hx hb dX7_sum_29 rfl (lv_at hl 0 rfl) ?_
          obtain ⟨r30, hr30, hM⟩ := h_b hM
          refine a_callV (σ' := aG r30.2) (v := (some (.int r30.1))) (As := fun ad => []) (rest := []) (o := 109) C hw (c_X7_here l hr30) k_X7_here wM_X7_68 ⟨⟨rfl, rfl⟩, ⟨by simp only [rm_X7_here, aRm]; omega, by simp only [rm_X7_here, aRm]; omega⟩⟩ rfl (by decide) rfl rfl rfl hl rfl (Nat.le_of_ble_eq_true rfl) dX7_sum_30 ⟨Nat.zero_le _, Nat.zero_le _⟩ (fun H locs hw => ?_)
          refine lv_istore_n (lv' := [(1, .int r30.1), (0, .ref (ad 109))]) hx hb dX7_sum_33 rfl hl (by decide) rfl (fun ls hl => ?_)
          refine lv_aload_n hx hb dX7_sum_34 rfl (lv_at hl 1 rfl) ?_
          refine lv_dup hx hb dX7_sum_35 rfl ?_
          refine a_geti (σ := aG r30.2) (o := 109) (T := TX7) (N := 20) C wU_X7 hw rfl (by decide) rfl 4 (by decide) rfl wF_X7_51 dX7_sum_36 ?_
          refine lv_iconst (v := (1 : Int32)) hx hb dX7_sum_39 (by decide) ?_
          refine lv_iadd hx hb dX7_sum_40 ?_
          refine a_puti (ty := .int) (σ := aG r30.2) (o := 109) (T := TX7) (N := 20) (ty0 := tyX7) C wU_X7 tyX7_ok nmX7 hw rfl (by decide) rfl 4 (by decide) rfl wF_X7_51 rfl (by decide +kernel) rfl rfl dX7_sum_41 (fun H locs hw => ?_)
          have hw : aW D dA ad adV (aG (pI r30.2 109 4 ((gI r30.2 109 4) + (1 : Int32)))) A s H locs := hw
          refine lv_aload_n hx hb dX7_sum_44 rfl (lv_at hl 1 rfl) ?_
          obtain ⟨r45, hr45, hM⟩ := h_b hM
          refine a_callV (σ' := aG r45) (v := none) (As := fun ad => []) (rest := []) (o := 109) C hw (c_X7_product l hf hw9 (fun h => hF h) hr45) k_X7_product wM_X7_136 ⟨⟨rfl, rfl⟩, ⟨by simp only [aRm]; omega, by simp only [aRm]; omega⟩⟩ rfl (by decide) rfl rfl rfl hl rfl (Nat.le_of_ble_eq_true rfl) dX7_sum_45 ⟨Nat.zero_le _, Nat.zero_le _⟩ (fun H locs hw => ?_)
          refine lv_aload_n hx hb dX7_sum_48 rfl (lv_at hl 1 rfl) ?_
          refine lv_iload_n hx hb dX7_sum_49 rfl (lv_at hl 0 rfl) ?_
          refine lv_bipush (v := (43 : Int32)) hx hb dX7_sum_50 (by decide) ?_
          refine lv_icmp_ne (tgt := 59) hx hb dX7_sum_52 (by decide) (fun hc => ?_) (fun hc => ?_)
          · replace hM := h_f hc hM
            refine lv_bipush (v := (6 : Int32)) hx hb dX7_sum_59 (by decide) ?_
            obtain ⟨r61, hr61, hM⟩ := h_b hM
            refine a_callV (σ' := aG r61) (v := none) (As := fun ad => [.int (6 : Int32)]) (rest := []) (o := 109) C hw (c_X7_tells l hr61) k_X7_tells wM_X7_113 ⟨⟨rfl, rfl⟩, ⟨by simp only [rm_X7_tells, aRm]; omega, by simp only [rm_X7_tells, aRm]; omega⟩⟩ rfl (by decide) rfl rfl rfl hl rfl (Nat.le_of_ble_eq_true rfl) dX7_sum_61 ⟨Nat.zero_le _, Nat.zero_le _⟩ (fun H locs hw => ?_)
            refine lv_goto (tgt := 4) hx hb dX7_sum_64 (by decide) ?_
            exact ih hM hw (lv_sub hl [1] rfl)
          · replace hM := h_t hc hM
            refine lv_iconst (v := (5 : Int32)) hx hb dX7_sum_55 (by decide) ?_
            refine lv_goto (tgt := 61) hx hb dX7_sum_56 (by decide) ?_
            obtain ⟨r61, hr61, hM⟩ := h_b hM
            refine a_callV (σ' := aG r61) (v := none) (As := fun ad => [.int (5 : Int32)]) (rest := []) (o := 109) C hw (c_X7_tells l hr61) k_X7_tells wM_X7_113 ⟨⟨rfl, rfl⟩, ⟨by simp only [rm_X7_tells, aRm]; omega, by simp only [rm_X7_tells, aRm]; omega⟩⟩ rfl (by decide) rfl rfl rfl hl rfl (Nat.le_of_ble_eq_true rfl) dX7_sum_61 ⟨Nat.zero_le _, Nat.zero_le _⟩ (fun H locs hw => ?_)
            refine lv_goto (tgt := 4) hx hb dX7_sum_64 (by decide) ?_
            exact ih hM hw (lv_sub hl [1] rfl)
set_option maxHeartbeats 400000 in
set_option maxRecDepth 100000 in
theorem c_X7_sum (l : Launch) {F : iS → Option (iS)} {f w : Nat} (hf : 40 ≤ f) (hw9 : 1000 ≤ w) (hF : ∀ {ι : iS} {res : iS}, F ι = some res → aM l yX7_part cX7_part 4 none (aRm f w) (fun ad => [.ref (ad 109)]) (aG ι) none (aG res)) {ι : iS} {res : iS} (hM : m_X7_sum F ι = some res) : aM l yX7_sum cX7_sum 2 none (aRm (f + 2) (w + 43)) (fun ad => [.ref (ad 109)]) (aG ι) none (aG res) := by
  refine aM.of (by decide) (fun _ => Nat.le_of_ble_eq_true rfl) ?_
  intro p e s m args below meth c D dA ad adV A ls C hw hl
  have C : aX p m c cX7_sum 2 s args aTs RX7 meth none := C
  have hx := C.1.1
  have hb := C.1.2.1
  have hml := C.1.2.2.1
  have hown := C.1.2.2.2.1
  have hts := C.1.2.2.2.2
  have hl : lv_has ls 2 [(0, .ref (ad 109))] := hl
  unfold m_X7_sum at hM
  refine lv_aload_n hx hb dX7_sum_0 rfl (lv_at hl 0 rfl) ?_
  obtain ⟨r1, hr1, hM⟩ := h_b hM
  refine a_callV (σ' := aG r1) (v := none) (As := fun ad => []) (rest := []) (o := 109) C hw (c_X7_product l hf hw9 (fun h => hF h) hr1) k_X7_product wM_X7_136 ⟨⟨rfl, rfl⟩, ⟨by simp only [aRm]; omega, by simp only [aRm]; omega⟩⟩ rfl (by decide) rfl rfl rfl hl rfl (Nat.le_of_ble_eq_true rfl) dX7_sum_1 ⟨Nat.zero_le _, Nat.zero_le _⟩ (fun H locs hw => ?_)
  exact tl_X7_sum_4 l C hf hw9 (fun h => hF h) aF hM hw (lv_sub hl [0] rfl)
set_option maxHeartbeats 400000 in
set_option maxRecDepth 100000 in
theorem c_X7_part (l : Launch) : ∀ (d : Nat) {ι : iS} {res : iS}, m_X7_part d ι = some res → aM l yX7_part cX7_part 4 none (aRm (40 + 3 * d) (1000 + 64 * d)) (fun ad => [.ref (ad 109)]) (aG ι) none (aG res) := by
  intro d
  induction d with
  | zero => intro ι res hM; simp [m_X7_part] at hM
  | succ d ih =>
    intro ι res hM
    rw [m_X7_part] at hM
    refine aM.of (by decide) (fun _ => Nat.le_of_ble_eq_true rfl) ?_
    intro p e s m args below meth c D dA ad adV A ls C hw hl
    have C : aX p m c cX7_part 4 s args aTs RX7 meth none := C
    have hx := C.1.1
    have hb := C.1.2.1
    have hml := C.1.2.2.1
    have hown := C.1.2.2.2.1
    have hts := C.1.2.2.2.2
    have hl : lv_has ls 4 [(0, .ref (ad 109))] := hl
    refine lv_aload_n hx hb dX7_part_0 rfl (lv_at hl 0 rfl) ?_
    obtain ⟨r1, hr1, hM⟩ := h_b hM
    refine a_callV (σ' := aG r1.2) (v := (some (.int r1.1))) (As := fun ad => []) (rest := []) (o := 109) C hw (c_X7_fine l hr1) k_X7_fine wM_X7_64 ⟨⟨rfl, rfl⟩, ⟨by simp only [rm_X7_fine, aRm]; omega, by simp only [rm_X7_fine, aRm]; omega⟩⟩ rfl (by decide) rfl rfl rfl hl rfl (Nat.le_of_ble_eq_true rfl) dX7_part_1 ⟨Nat.zero_le _, Nat.zero_le _⟩ (fun H locs hw => ?_)
    refine lv_if_ne (tgt := 8) hx hb dX7_part_4 (by decide) (fun hc => ?_) (fun hc => ?_)
    · replace hM := h_f hc hM
      refine lv_aload_n hx hb dX7_part_8 rfl (lv_at hl 0 rfl) ?_
      obtain ⟨r9, hr9, hM⟩ := h_b hM
      refine a_callV (σ' := aG r9.2) (v := (some (.int r9.1))) (As := fun ad => []) (rest := []) (o := 109) C hw (c_X7_here l hr9) k_X7_here wM_X7_68 ⟨⟨rfl, rfl⟩, ⟨by simp only [rm_X7_here, aRm]; omega, by simp only [rm_X7_here, aRm]; omega⟩⟩ rfl (by decide) rfl rfl rfl hl rfl (Nat.le_of_ble_eq_true rfl) dX7_part_9 ⟨Nat.zero_le _, Nat.zero_le _⟩ (fun H locs hw => ?_)
      refine lv_istore_n (lv' := [(1, .int r9.1), (0, .ref (ad 109))]) hx hb dX7_part_12 rfl hl (by decide) rfl (fun ls hl => ?_)
      refine lv_iload_n hx hb dX7_part_13 rfl (lv_at hl 0 rfl) ?_
      refine lv_bipush (v := (45 : Int32)) hx hb dX7_part_14 (by decide) ?_
      refine lv_icmp_ne (tgt := 44) hx hb dX7_part_16 (by decide) (fun hc => ?_) (fun hc => ?_)
      · replace hM := h_f hc hM
        refine lv_iload_n hx hb dX7_part_44 rfl (lv_at hl 0 rfl) ?_
        refine lv_bipush (v := (40 : Int32)) hx hb dX7_part_45 (by decide) ?_
        refine lv_icmp_ne (tgt := 75) hx hb dX7_part_47 (by decide) (fun hc => ?_) (fun hc => ?_)
        · replace hM := h_f hc hM
          refine lv_iload_n hx hb dX7_part_75 rfl (lv_at hl 0 rfl) ?_
          obtain ⟨r76, hr76, hM⟩ := h_b hM
          refine a_callS  (σ' := aG r76.2) (v := (some (.int r76.1))) (as := fun ad => [.int r9.1]) (rest := []) C hw (c_X7_isDigit l hr76) k_X7_isDigit wM_X7_89 ⟨⟨rfl, rfl⟩, ⟨by simp only [rm_X7_isDigit, aRm]; omega, by simp only [rm_X7_isDigit, aRm]; omega⟩⟩ rfl hl rfl (Nat.le_of_ble_eq_true rfl) dX7_part_76 ⟨Nat.zero_le _, Nat.zero_le _⟩ (fun H locs hw => ?_)
          refine lv_if_eq (tgt := 86) hx hb dX7_part_79 (by decide) (fun hc => ?_) (fun hc => ?_)
          · replace hM := h_t hc hM
            refine lv_aload_n hx hb dX7_part_86 rfl (lv_at hl 1 rfl) ?_
            refine a_ldcS (tx := "value") (q := 1000009) C hw (by decide) dX7_part_87 ?_
            obtain ⟨r89, hr89, hM⟩ := h_b hM
            refine a_callV (σ' := aG r89.2) (v := (some (.int r89.1))) (As := fun ad => [.ref (ad 1000009)]) (rest := []) (o := 109) C hw (c_X7_takes l (by decide) hr89) k_X7_takes wM_X7_125 ⟨⟨rfl, rfl⟩, ⟨by simp only [rm_X7_takes, aRm]; omega, by simp only [rm_X7_takes, aRm]; omega⟩⟩ rfl (by decide) rfl rfl rfl hl rfl (Nat.le_of_ble_eq_true rfl) dX7_part_89 ⟨Nat.zero_le _, Nat.zero_le _⟩ (fun H locs hw => ?_)
            refine lv_if_eq (tgt := 99) hx hb dX7_part_92 (by decide) (fun hc => ?_) (fun hc => ?_)
            · replace hM := h_t hc hM
              refine lv_aload_n hx hb dX7_part_99 rfl (lv_at hl 1 rfl) ?_
              refine a_ldcS (tx := "off") (q := 1000010) C hw (by decide) dX7_part_100 ?_
              obtain ⟨r102, hr102, hM⟩ := h_b hM
              refine a_callV (σ' := aG r102.2) (v := (some (.int r102.1))) (As := fun ad => [.ref (ad 1000010)]) (rest := []) (o := 109) C hw (c_X7_takes l (by decide) hr102) k_X7_takes wM_X7_125 ⟨⟨rfl, rfl⟩, ⟨by simp only [rm_X7_takes, aRm]; omega, by simp only [rm_X7_takes, aRm]; omega⟩⟩ rfl (by decide) rfl rfl rfl hl rfl (Nat.le_of_ble_eq_true rfl) dX7_part_102 ⟨Nat.zero_le _, Nat.zero_le _⟩ (fun H locs hw => ?_)
              refine lv_if_eq (tgt := 112) hx hb dX7_part_105 (by decide) (fun hc => ?_) (fun hc => ?_)
              · replace hM := h_t hc hM
                refine lv_aload_n hx hb dX7_part_112 rfl (lv_at hl 1 rfl) ?_
                refine a_ldcS (tx := "weight") (q := 1000011) C hw (by decide) dX7_part_113 ?_
                obtain ⟨r115, hr115, hM⟩ := h_b hM
                refine a_callV (σ' := aG r115.2) (v := (some (.int r115.1))) (As := fun ad => [.ref (ad 1000011)]) (rest := []) (o := 109) C hw (c_X7_takes l (by decide) hr115) k_X7_takes wM_X7_125 ⟨⟨rfl, rfl⟩, ⟨by simp only [rm_X7_takes, aRm]; omega, by simp only [rm_X7_takes, aRm]; omega⟩⟩ rfl (by decide) rfl rfl rfl hl rfl (Nat.le_of_ble_eq_true rfl) dX7_part_115 ⟨Nat.zero_le _, Nat.zero_le _⟩ (fun H locs hw => ?_)
                refine lv_if_eq (tgt := 125) hx hb dX7_part_118 (by decide) (fun hc => ?_) (fun hc => ?_)
                · replace hM := h_t hc hM
                  refine lv_iconst (v := (0 : Int32)) hx hb dX7_part_125 (by decide) ?_
                  refine lv_istore_n (lv' := [(2, .int (0 : Int32)), (1, .int r9.1), (0, .ref (ad 109))]) hx hb dX7_part_126 rfl hl (by decide) rfl (fun ls hl => ?_)
                  refine lv_iload_n hx hb dX7_part_127 rfl (lv_at hl 0 rfl) ?_
                  refine lv_if_ne (tgt := 140) hx hb dX7_part_128 (by decide) (fun hc => absurd hc (by decide)) (fun _ => ?_)
                  refine lv_aload_n hx hb dX7_part_131 rfl (lv_at hl 2 rfl) ?_
                  refine lv_iconst (v := (1 : Int32)) hx hb dX7_part_132 (by decide) ?_
                  refine lv_aload_n hx hb dX7_part_133 rfl (lv_at hl 2 rfl) ?_
                  refine a_geti (σ := aG r115.2) (o := 109) (T := TX7) (N := 20) C wU_X7 hw rfl (by decide) rfl 4 (by decide) rfl wF_X7_51 dX7_part_134 ?_
                  obtain ⟨r137, hr137, hM⟩ := h_b hM
                  refine a_callV (σ' := aG r137) (v := none) (As := fun ad => [.int (1 : Int32), .int (gI r115.2 109 4)]) (rest := []) (o := 109) C hw (c_X7_wrong l hr137) k_X7_wrong wM_X7_85 ⟨⟨rfl, rfl⟩, ⟨by simp only [rm_X7_wrong, aRm]; omega, by simp only [rm_X7_wrong, aRm]; omega⟩⟩ rfl (by decide) rfl rfl rfl hl rfl (Nat.le_of_ble_eq_true rfl) dX7_part_137 ⟨Nat.zero_le _, Nat.zero_le _⟩ (fun H locs hw => ?_)
                  refine lv_iload_n hx hb dX7_part_140 rfl (lv_at hl 0 rfl) ?_
                  refine lv_iconst (v := (1 : Int32)) hx hb dX7_part_141 (by decide) ?_
                  refine lv_icmp_ne (tgt := 155) hx hb dX7_part_142 (by decide) (fun _ => ?_) (fun hc => absurd hc (by decide))
                  refine lv_aload_n hx hb dX7_part_155 rfl (lv_at hl 2 rfl) ?_
                  obtain ⟨r156, hr156, hM⟩ := h_b hM
                  refine a_callV (σ' := aG r156.2) (v := (some (.int r156.1))) (As := fun ad => []) (rest := []) (o := 109) C hw (c_X7_traitTold l hr156) k_X7_traitTold wM_X7_133 ⟨⟨rfl, rfl⟩, ⟨by simp only [rm_X7_traitTold, aRm]; omega, by simp only [rm_X7_traitTold, aRm]; omega⟩⟩ rfl (by decide) rfl rfl rfl hl rfl (Nat.le_of_ble_eq_true rfl) dX7_part_156 ⟨Nat.zero_le _, Nat.zero_le _⟩ (fun H locs hw => ?_)
                  refine lv_istore_n (lv' := [(3, .int r156.1), (2, .int (0 : Int32)), (1, .int r9.1), (0, .ref (ad 109))]) hx hb dX7_part_159 rfl hl (by decide) rfl (fun ls hl => ?_)
                  refine lv_aload_n hx hb dX7_part_160 rfl (lv_at hl 3 rfl) ?_
                  refine lv_iload_n hx hb dX7_part_161 rfl (lv_at hl 1 rfl) ?_
                  obtain ⟨r162, hr162, hM⟩ := h_b hM
                  refine a_callV (σ' := aG r162) (v := none) (As := fun ad => [.int (0 : Int32)]) (rest := []) (o := 109) C hw (c_X7_tells l hr162) k_X7_tells wM_X7_113 ⟨⟨rfl, rfl⟩, ⟨by simp only [rm_X7_tells, aRm]; omega, by simp only [rm_X7_tells, aRm]; omega⟩⟩ rfl (by decide) rfl rfl rfl hl rfl (Nat.le_of_ble_eq_true rfl) dX7_part_162 ⟨Nat.zero_le _, Nat.zero_le _⟩ (fun H locs hw => ?_)
                  refine lv_aload_n hx hb dX7_part_165 rfl (lv_at hl 3 rfl) ?_
                  refine lv_iload_n hx hb dX7_part_166 rfl (lv_at hl 0 rfl) ?_
                  obtain ⟨r167, hr167, hM⟩ := h_b hM
                  refine a_callV (σ' := aG r167) (v := none) (As := fun ad => [.int r156.1]) (rest := []) (o := 109) C hw (c_X7_tells l hr167) k_X7_tells wM_X7_113 ⟨⟨rfl, rfl⟩, ⟨by simp only [rm_X7_tells, aRm]; omega, by simp only [rm_X7_tells, aRm]; omega⟩⟩ rfl (by decide) rfl rfl rfl hl rfl (Nat.le_of_ble_eq_true rfl) dX7_part_167 ⟨Nat.zero_le _, Nat.zero_le _⟩ (fun H locs hw => ?_)
                  cases h_e hM
                  exact a_vret C hw dX7_part_170
                · replace hM := h_f hc hM
                  refine lv_iconst (v := (4 : Int32)) hx hb dX7_part_121 (by decide) ?_
                  refine lv_goto (tgt := 126) hx hb dX7_part_122 (by decide) ?_
                  refine lv_istore_n (lv' := [(2, .int (4 : Int32)), (1, .int r9.1), (0, .ref (ad 109))]) hx hb dX7_part_126 rfl hl (by decide) rfl (fun ls hl => ?_)
                  refine lv_iload_n hx hb dX7_part_127 rfl (lv_at hl 0 rfl) ?_
                  refine lv_if_ne (tgt := 140) hx hb dX7_part_128 (by decide) (fun _ => ?_) (fun hc => absurd hc (by decide))
                  refine lv_iload_n hx hb dX7_part_140 rfl (lv_at hl 0 rfl) ?_
                  refine lv_iconst (v := (1 : Int32)) hx hb dX7_part_141 (by decide) ?_
                  refine lv_icmp_ne (tgt := 155) hx hb dX7_part_142 (by decide) (fun _ => ?_) (fun hc => absurd hc (by decide))
                  refine lv_aload_n hx hb dX7_part_155 rfl (lv_at hl 2 rfl) ?_
                  obtain ⟨r156, hr156, hM⟩ := h_b hM
                  refine a_callV (σ' := aG r156.2) (v := (some (.int r156.1))) (As := fun ad => []) (rest := []) (o := 109) C hw (c_X7_traitTold l hr156) k_X7_traitTold wM_X7_133 ⟨⟨rfl, rfl⟩, ⟨by simp only [rm_X7_traitTold, aRm]; omega, by simp only [rm_X7_traitTold, aRm]; omega⟩⟩ rfl (by decide) rfl rfl rfl hl rfl (Nat.le_of_ble_eq_true rfl) dX7_part_156 ⟨Nat.zero_le _, Nat.zero_le _⟩ (fun H locs hw => ?_)
                  refine lv_istore_n (lv' := [(3, .int r156.1), (2, .int (4 : Int32)), (1, .int r9.1), (0, .ref (ad 109))]) hx hb dX7_part_159 rfl hl (by decide) rfl (fun ls hl => ?_)
                  refine lv_aload_n hx hb dX7_part_160 rfl (lv_at hl 3 rfl) ?_
                  refine lv_iload_n hx hb dX7_part_161 rfl (lv_at hl 1 rfl) ?_
                  obtain ⟨r162, hr162, hM⟩ := h_b hM
                  refine a_callV (σ' := aG r162) (v := none) (As := fun ad => [.int (4 : Int32)]) (rest := []) (o := 109) C hw (c_X7_tells l hr162) k_X7_tells wM_X7_113 ⟨⟨rfl, rfl⟩, ⟨by simp only [rm_X7_tells, aRm]; omega, by simp only [rm_X7_tells, aRm]; omega⟩⟩ rfl (by decide) rfl rfl rfl hl rfl (Nat.le_of_ble_eq_true rfl) dX7_part_162 ⟨Nat.zero_le _, Nat.zero_le _⟩ (fun H locs hw => ?_)
                  refine lv_aload_n hx hb dX7_part_165 rfl (lv_at hl 3 rfl) ?_
                  refine lv_iload_n hx hb dX7_part_166 rfl (lv_at hl 0 rfl) ?_
                  obtain ⟨r167, hr167, hM⟩ := h_b hM
                  refine a_callV (σ' := aG r167) (v := none) (As := fun ad => [.int r156.1]) (rest := []) (o := 109) C hw (c_X7_tells l hr167) k_X7_tells wM_X7_113 ⟨⟨rfl, rfl⟩, ⟨by simp only [rm_X7_tells, aRm]; omega, by simp only [rm_X7_tells, aRm]; omega⟩⟩ rfl (by decide) rfl rfl rfl hl rfl (Nat.le_of_ble_eq_true rfl) dX7_part_167 ⟨Nat.zero_le _, Nat.zero_le _⟩ (fun H locs hw => ?_)
                  cases h_e hM
                  exact a_vret C hw dX7_part_170
              · replace hM := h_f hc hM
                refine lv_iconst (v := (3 : Int32)) hx hb dX7_part_108 (by decide) ?_
                refine lv_goto (tgt := 126) hx hb dX7_part_109 (by decide) ?_
                refine lv_istore_n (lv' := [(2, .int (3 : Int32)), (1, .int r9.1), (0, .ref (ad 109))]) hx hb dX7_part_126 rfl hl (by decide) rfl (fun ls hl => ?_)
                refine lv_iload_n hx hb dX7_part_127 rfl (lv_at hl 0 rfl) ?_
                refine lv_if_ne (tgt := 140) hx hb dX7_part_128 (by decide) (fun _ => ?_) (fun hc => absurd hc (by decide))
                refine lv_iload_n hx hb dX7_part_140 rfl (lv_at hl 0 rfl) ?_
                refine lv_iconst (v := (1 : Int32)) hx hb dX7_part_141 (by decide) ?_
                refine lv_icmp_ne (tgt := 155) hx hb dX7_part_142 (by decide) (fun _ => ?_) (fun hc => absurd hc (by decide))
                refine lv_aload_n hx hb dX7_part_155 rfl (lv_at hl 2 rfl) ?_
                obtain ⟨r156, hr156, hM⟩ := h_b hM
                refine a_callV (σ' := aG r156.2) (v := (some (.int r156.1))) (As := fun ad => []) (rest := []) (o := 109) C hw (c_X7_traitTold l hr156) k_X7_traitTold wM_X7_133 ⟨⟨rfl, rfl⟩, ⟨by simp only [rm_X7_traitTold, aRm]; omega, by simp only [rm_X7_traitTold, aRm]; omega⟩⟩ rfl (by decide) rfl rfl rfl hl rfl (Nat.le_of_ble_eq_true rfl) dX7_part_156 ⟨Nat.zero_le _, Nat.zero_le _⟩ (fun H locs hw => ?_)
                refine lv_istore_n (lv' := [(3, .int r156.1), (2, .int (3 : Int32)), (1, .int r9.1), (0, .ref (ad 109))]) hx hb dX7_part_159 rfl hl (by decide) rfl (fun ls hl => ?_)
                refine lv_aload_n hx hb dX7_part_160 rfl (lv_at hl 3 rfl) ?_
                refine lv_iload_n hx hb dX7_part_161 rfl (lv_at hl 1 rfl) ?_
                obtain ⟨r162, hr162, hM⟩ := h_b hM
                refine a_callV (σ' := aG r162) (v := none) (As := fun ad => [.int (3 : Int32)]) (rest := []) (o := 109) C hw (c_X7_tells l hr162) k_X7_tells wM_X7_113 ⟨⟨rfl, rfl⟩, ⟨by simp only [rm_X7_tells, aRm]; omega, by simp only [rm_X7_tells, aRm]; omega⟩⟩ rfl (by decide) rfl rfl rfl hl rfl (Nat.le_of_ble_eq_true rfl) dX7_part_162 ⟨Nat.zero_le _, Nat.zero_le _⟩ (fun H locs hw => ?_)
                refine lv_aload_n hx hb dX7_part_165 rfl (lv_at hl 3 rfl) ?_
                refine lv_iload_n hx hb dX7_part_166 rfl (lv_at hl 0 rfl) ?_
                obtain ⟨r167, hr167, hM⟩ := h_b hM
                refine a_callV (σ' := aG r167) (v := none) (As := fun ad => [.int r156.1]) (rest := []) (o := 109) C hw (c_X7_tells l hr167) k_X7_tells wM_X7_113 ⟨⟨rfl, rfl⟩, ⟨by simp only [rm_X7_tells, aRm]; omega, by simp only [rm_X7_tells, aRm]; omega⟩⟩ rfl (by decide) rfl rfl rfl hl rfl (Nat.le_of_ble_eq_true rfl) dX7_part_167 ⟨Nat.zero_le _, Nat.zero_le _⟩ (fun H locs hw => ?_)
                cases h_e hM
                exact a_vret C hw dX7_part_170
            · replace hM := h_f hc hM
              refine lv_iconst (v := (2 : Int32)) hx hb dX7_part_95 (by decide) ?_
              refine lv_goto (tgt := 126) hx hb dX7_part_96 (by decide) ?_
              refine lv_istore_n (lv' := [(2, .int (2 : Int32)), (1, .int r9.1), (0, .ref (ad 109))]) hx hb dX7_part_126 rfl hl (by decide) rfl (fun ls hl => ?_)
              refine lv_iload_n hx hb dX7_part_127 rfl (lv_at hl 0 rfl) ?_
              refine lv_if_ne (tgt := 140) hx hb dX7_part_128 (by decide) (fun _ => ?_) (fun hc => absurd hc (by decide))
              refine lv_iload_n hx hb dX7_part_140 rfl (lv_at hl 0 rfl) ?_
              refine lv_iconst (v := (1 : Int32)) hx hb dX7_part_141 (by decide) ?_
              refine lv_icmp_ne (tgt := 155) hx hb dX7_part_142 (by decide) (fun _ => ?_) (fun hc => absurd hc (by decide))
              refine lv_aload_n hx hb dX7_part_155 rfl (lv_at hl 2 rfl) ?_
              obtain ⟨r156, hr156, hM⟩ := h_b hM
              refine a_callV (σ' := aG r156.2) (v := (some (.int r156.1))) (As := fun ad => []) (rest := []) (o := 109) C hw (c_X7_traitTold l hr156) k_X7_traitTold wM_X7_133 ⟨⟨rfl, rfl⟩, ⟨by simp only [rm_X7_traitTold, aRm]; omega, by simp only [rm_X7_traitTold, aRm]; omega⟩⟩ rfl (by decide) rfl rfl rfl hl rfl (Nat.le_of_ble_eq_true rfl) dX7_part_156 ⟨Nat.zero_le _, Nat.zero_le _⟩ (fun H locs hw => ?_)
              refine lv_istore_n (lv' := [(3, .int r156.1), (2, .int (2 : Int32)), (1, .int r9.1), (0, .ref (ad 109))]) hx hb dX7_part_159 rfl hl (by decide) rfl (fun ls hl => ?_)
              refine lv_aload_n hx hb dX7_part_160 rfl (lv_at hl 3 rfl) ?_
              refine lv_iload_n hx hb dX7_part_161 rfl (lv_at hl 1 rfl) ?_
              obtain ⟨r162, hr162, hM⟩ := h_b hM
              refine a_callV (σ' := aG r162) (v := none) (As := fun ad => [.int (2 : Int32)]) (rest := []) (o := 109) C hw (c_X7_tells l hr162) k_X7_tells wM_X7_113 ⟨⟨rfl, rfl⟩, ⟨by simp only [rm_X7_tells, aRm]; omega, by simp only [rm_X7_tells, aRm]; omega⟩⟩ rfl (by decide) rfl rfl rfl hl rfl (Nat.le_of_ble_eq_true rfl) dX7_part_162 ⟨Nat.zero_le _, Nat.zero_le _⟩ (fun H locs hw => ?_)
              refine lv_aload_n hx hb dX7_part_165 rfl (lv_at hl 3 rfl) ?_
              refine lv_iload_n hx hb dX7_part_166 rfl (lv_at hl 0 rfl) ?_
              obtain ⟨r167, hr167, hM⟩ := h_b hM
              refine a_callV (σ' := aG r167) (v := none) (As := fun ad => [.int r156.1]) (rest := []) (o := 109) C hw (c_X7_tells l hr167) k_X7_tells wM_X7_113 ⟨⟨rfl, rfl⟩, ⟨by simp only [rm_X7_tells, aRm]; omega, by simp only [rm_X7_tells, aRm]; omega⟩⟩ rfl (by decide) rfl rfl rfl hl rfl (Nat.le_of_ble_eq_true rfl) dX7_part_167 ⟨Nat.zero_le _, Nat.zero_le _⟩ (fun H locs hw => ?_)
              cases h_e hM
              exact a_vret C hw dX7_part_170
          · replace hM := h_f hc hM
            refine lv_iconst (v := (1 : Int32)) hx hb dX7_part_82 (by decide) ?_
            refine lv_goto (tgt := 126) hx hb dX7_part_83 (by decide) ?_
            refine lv_istore_n (lv' := [(2, .int (1 : Int32)), (1, .int r9.1), (0, .ref (ad 109))]) hx hb dX7_part_126 rfl hl (by decide) rfl (fun ls hl => ?_)
            refine lv_iload_n hx hb dX7_part_127 rfl (lv_at hl 0 rfl) ?_
            refine lv_if_ne (tgt := 140) hx hb dX7_part_128 (by decide) (fun _ => ?_) (fun hc => absurd hc (by decide))
            refine lv_iload_n hx hb dX7_part_140 rfl (lv_at hl 0 rfl) ?_
            refine lv_iconst (v := (1 : Int32)) hx hb dX7_part_141 (by decide) ?_
            refine lv_icmp_ne (tgt := 155) hx hb dX7_part_142 (by decide) (fun hc => absurd hc (by decide)) (fun _ => ?_)
            refine lv_aload_n hx hb dX7_part_145 rfl (lv_at hl 2 rfl) ?_
            refine lv_iconst (v := (0 : Int32)) hx hb dX7_part_146 (by decide) ?_
            refine lv_bipush (v := (99 : Int32)) hx hb dX7_part_147 (by decide) ?_
            obtain ⟨r149, hr149, hM⟩ := h_b hM
            refine a_callV (σ' := aG r149.2) (v := (some (.int r149.1))) (As := fun ad => [.int (0 : Int32), .int (99 : Int32)]) (rest := []) (o := 109) C hw (c_X7_number l hr149) k_X7_number wM_X7_98 ⟨⟨rfl, rfl⟩, ⟨by simp only [rm_X7_number, aRm]; omega, by simp only [rm_X7_number, aRm]; omega⟩⟩ rfl (by decide) rfl rfl rfl hl rfl (Nat.le_of_ble_eq_true rfl) dX7_part_149 ⟨Nat.zero_le _, Nat.zero_le _⟩ (fun H locs hw => ?_)
            refine lv_goto (tgt := 159) hx hb dX7_part_152 (by decide) ?_
            refine lv_istore_n (lv' := [(3, .int r149.1), (2, .int (1 : Int32)), (1, .int r9.1), (0, .ref (ad 109))]) hx hb dX7_part_159 rfl hl (by decide) rfl (fun ls hl => ?_)
            refine lv_aload_n hx hb dX7_part_160 rfl (lv_at hl 3 rfl) ?_
            refine lv_iload_n hx hb dX7_part_161 rfl (lv_at hl 1 rfl) ?_
            obtain ⟨r162, hr162, hM⟩ := h_b hM
            refine a_callV (σ' := aG r162) (v := none) (As := fun ad => [.int (1 : Int32)]) (rest := []) (o := 109) C hw (c_X7_tells l hr162) k_X7_tells wM_X7_113 ⟨⟨rfl, rfl⟩, ⟨by simp only [rm_X7_tells, aRm]; omega, by simp only [rm_X7_tells, aRm]; omega⟩⟩ rfl (by decide) rfl rfl rfl hl rfl (Nat.le_of_ble_eq_true rfl) dX7_part_162 ⟨Nat.zero_le _, Nat.zero_le _⟩ (fun H locs hw => ?_)
            refine lv_aload_n hx hb dX7_part_165 rfl (lv_at hl 3 rfl) ?_
            refine lv_iload_n hx hb dX7_part_166 rfl (lv_at hl 0 rfl) ?_
            obtain ⟨r167, hr167, hM⟩ := h_b hM
            refine a_callV (σ' := aG r167) (v := none) (As := fun ad => [.int r149.1]) (rest := []) (o := 109) C hw (c_X7_tells l hr167) k_X7_tells wM_X7_113 ⟨⟨rfl, rfl⟩, ⟨by simp only [rm_X7_tells, aRm]; omega, by simp only [rm_X7_tells, aRm]; omega⟩⟩ rfl (by decide) rfl rfl rfl hl rfl (Nat.le_of_ble_eq_true rfl) dX7_part_167 ⟨Nat.zero_le _, Nat.zero_le _⟩ (fun H locs hw => ?_)
            cases h_e hM
            exact a_vret C hw dX7_part_170
        · replace hM := h_t hc hM
          refine lv_aload_n hx hb dX7_part_50 rfl (lv_at hl 1 rfl) ?_
          obtain ⟨r51, hr51, hM⟩ := h_b hM
          refine a_callV (σ' := aG r51) (v := none) (As := fun ad => []) (rest := []) (o := 109) C hw (c_X7_opens l hr51) k_X7_opens wM_X7_107 ⟨⟨rfl, rfl⟩, ⟨by simp only [rm_X7_opens, aRm]; omega, by simp only [rm_X7_opens, aRm]; omega⟩⟩ rfl (by decide) rfl rfl rfl hl rfl (Nat.le_of_ble_eq_true rfl) dX7_part_51 ⟨Nat.zero_le _, Nat.zero_le _⟩ (fun H locs hw => ?_)
          refine lv_aload_n hx hb dX7_part_54 rfl (lv_at hl 1 rfl) ?_
          obtain ⟨r55, hr55, hM⟩ := h_b hM
          refine a_callV (σ' := aG r55) (v := none) (As := fun ad => []) (rest := []) (o := 109) C hw (c_X7_sum l (f := 40 + 3 * d) (w := 1000 + 64 * d) (by omega) (by omega) (fun h => ih h) hr55) k_X7_sum wM_X7_117 ⟨⟨rfl, rfl⟩, ⟨by simp only [aRm]; omega, by simp only [aRm]; omega⟩⟩ rfl (by decide) rfl rfl rfl hl rfl (Nat.le_of_ble_eq_true rfl) dX7_part_55 ⟨Nat.zero_le _, Nat.zero_le _⟩ (fun H locs hw => ?_)
          refine lv_aload_n hx hb dX7_part_58 rfl (lv_at hl 1 rfl) ?_
          refine lv_bipush (v := (41 : Int32)) hx hb dX7_part_59 (by decide) ?_
          obtain ⟨r61, hr61, hM⟩ := h_b hM
          refine a_callV (σ' := aG r61) (v := none) (As := fun ad => [.int (41 : Int32)]) (rest := []) (o := 109) C hw (c_X7_must l hr61) k_X7_must wM_X7_120 ⟨⟨rfl, rfl⟩, ⟨by simp only [rm_X7_must, aRm]; omega, by simp only [rm_X7_must, aRm]; omega⟩⟩ rfl (by decide) rfl rfl rfl hl rfl (Nat.le_of_ble_eq_true rfl) dX7_part_61 ⟨Nat.zero_le _, Nat.zero_le _⟩ (fun H locs hw => ?_)
          refine lv_aload_n hx hb dX7_part_64 rfl (lv_at hl 1 rfl) ?_
          refine lv_dup hx hb dX7_part_65 rfl ?_
          refine a_geti (σ := aG r61) (o := 109) (T := TX7) (N := 20) C wU_X7 hw rfl (by decide) rfl 14 (by decide) rfl wF_X7_104 dX7_part_66 ?_
          refine lv_iconst (v := (1 : Int32)) hx hb dX7_part_69 (by decide) ?_
          refine lv_isub hx hb dX7_part_70 ?_
          refine a_puti (ty := .int) (σ := aG r61) (o := 109) (T := TX7) (N := 20) (ty0 := tyX7) C wU_X7 tyX7_ok nmX7 hw rfl (by decide) rfl 14 (by decide) rfl wF_X7_104 rfl (by decide +kernel) rfl rfl dX7_part_71 (fun H locs hw => ?_)
          have hw : aW D dA ad adV (aG (pI r61 109 14 ((gI r61 109 14) - (1 : Int32)))) A s H locs := hw
          cases h_e hM
          exact a_vret C hw dX7_part_74
      · replace hM := h_t hc hM
        refine lv_aload_n hx hb dX7_part_19 rfl (lv_at hl 1 rfl) ?_
        obtain ⟨r20, hr20, hM⟩ := h_b hM
        refine a_callV (σ' := aG r20) (v := none) (As := fun ad => []) (rest := []) (o := 109) C hw (c_X7_opens l hr20) k_X7_opens wM_X7_107 ⟨⟨rfl, rfl⟩, ⟨by simp only [rm_X7_opens, aRm]; omega, by simp only [rm_X7_opens, aRm]; omega⟩⟩ rfl (by decide) rfl rfl rfl hl rfl (Nat.le_of_ble_eq_true rfl) dX7_part_20 ⟨Nat.zero_le _, Nat.zero_le _⟩ (fun H locs hw => ?_)
        refine lv_aload_n hx hb dX7_part_23 rfl (lv_at hl 1 rfl) ?_
        obtain ⟨r24, hr24, hM⟩ := h_b hM
        refine a_callV (σ' := aG r24) (v := none) (As := fun ad => []) (rest := []) (o := 109) C hw (ih hr24) k_X7_part wM_X7_110 ⟨⟨rfl, rfl⟩, ⟨by simp only [aRm]; omega, by simp only [aRm]; omega⟩⟩ rfl (by decide) rfl rfl rfl hl rfl (Nat.le_of_ble_eq_true rfl) dX7_part_24 ⟨Nat.zero_le _, Nat.zero_le _⟩ (fun H locs hw => ?_)
        refine lv_aload_n hx hb dX7_part_27 rfl (lv_at hl 1 rfl) ?_
        refine lv_bipush (v := (8 : Int32)) hx hb dX7_part_28 (by decide) ?_
        obtain ⟨r30, hr30, hM⟩ := h_b hM
        refine a_callV (σ' := aG r30) (v := none) (As := fun ad => [.int (8 : Int32)]) (rest := []) (o := 109) C hw (c_X7_tells l hr30) k_X7_tells wM_X7_113 ⟨⟨rfl, rfl⟩, ⟨by simp only [rm_X7_tells, aRm]; omega, by simp only [rm_X7_tells, aRm]; omega⟩⟩ rfl (by decide) rfl rfl rfl hl rfl (Nat.le_of_ble_eq_true rfl) dX7_part_30 ⟨Nat.zero_le _, Nat.zero_le _⟩ (fun H locs hw => ?_)
        refine lv_aload_n hx hb dX7_part_33 rfl (lv_at hl 1 rfl) ?_
        refine lv_dup hx hb dX7_part_34 rfl ?_
        refine a_geti (σ := aG r30) (o := 109) (T := TX7) (N := 20) C wU_X7 hw rfl (by decide) rfl 14 (by decide) rfl wF_X7_104 dX7_part_35 ?_
        refine lv_iconst (v := (1 : Int32)) hx hb dX7_part_38 (by decide) ?_
        refine lv_isub hx hb dX7_part_39 ?_
        refine a_puti (ty := .int) (σ := aG r30) (o := 109) (T := TX7) (N := 20) (ty0 := tyX7) C wU_X7 tyX7_ok nmX7 hw rfl (by decide) rfl 14 (by decide) rfl wF_X7_104 rfl (by decide +kernel) rfl rfl dX7_part_40 (fun H locs hw => ?_)
        have hw : aW D dA ad adV (aG (pI r30 109 14 ((gI r30 109 14) - (1 : Int32)))) A s H locs := hw
        cases h_e hM
        exact a_vret C hw dX7_part_43
    · replace hM := h_t hc hM
      cases h_e hM
      exact a_vret C hw dX7_part_7
set_option maxHeartbeats 400000 in
set_option maxRecDepth 100000 in
theorem tl_X0_addFillers_17 (l : Launch) {p : Program} {e : Env} {s : State} {m : MethodId} {args : Array Value} {below : List Frame} {meth : Method} {c : Code} {D : va_G} {dA : Nat → ClassId} {ad adV : Nat → Nat} {A : Nat → Prop} (C : aX p m c cX0_addFillers 11 s args aTs RX0 meth none) {F : Int32 → Int32 → Int32 → Int64 → Int64 → iS → Option (iS)} {f w : Nat} {R : Room} (hf : 40 ≤ f) (hw9 : 1000 ≤ w) (hRf : f + 1 ≤ R.frames) (hRw : w + 30 ≤ R.locals) (hF : ∀ {x1 : Int32} {x2 : Int32} {x3 : Int32} {x4 : Int64} {x5 : Int64} {ι : iS} {res : iS}, F x1 x2 x3 x4 x5 ι = some res → aM l yX0_addFillers cX0_addFillers 11 none (aRm f w) (fun ad => [.ref (ad 35), .int x1, .int x2, .int x3, .long x4, .long x5]) (aG ι) none (aG res)) {res : iS} : ∀ (n : Nat) (y1 : Int32) (y2 : Int32) (y3 : Int32) (y4 : Int64) (y6 : Int64) (y8 : Int32) {ι : iS}, l_X0_addFillers_17 F n y1 y2 y3 y4 y6 y8 ι = some res → ∀ {H : Heap} {locs : List Loc} {ls : Array Slot}, aW D dA ad adV (aG ι) A s H locs → lv_has ls 11 [(0, .ref (ad 35)), (1, .int y1), (2, .int y2), (3, .int y3), (4, .long y4), (6, .long y6), (8, .int y8)] → W p l e R s m args below meth c H locs 0 0 (MQ below (aQ D dA ad (aG res) A none) args s 0 0 A) (F0 m 17 ls []) := by
  have hx := C.1.1
  have hb := C.1.2.1
  have hml := C.1.2.2.1
  have hown := C.1.2.2.2.1
  have hts := C.1.2.2.2.2
  intro n
  induction n with
  | zero => intro y1 y2 y3 y4 y6 y8 ι hM; simp [l_X0_addFillers_17] at hM
  | succ n ih =>
    intro y1 y2 y3 y4 y6 y8 ι hM H locs ls hw hl
    rw [l_X0_addFillers_17] at hM
    refine lv_iload hx hb dX0_addFillers_17 (lv_at hl 6 rfl) ?_
    refine lv_iload_n hx hb dX0_addFillers_19 rfl (lv_at hl 2 rfl) ?_
    refine lv_iadd hx hb dX0_addFillers_20 ?_
    refine lv_aload_n hx hb dX0_addFillers_21 rfl (lv_at hl 0 rfl) ?_
    refine a_geti (σ := aG ι) (o := 35) (T := TX0) (N := 6) C wU_X0 hw rfl (by decide) rfl 4 (by decide) rfl wF_X0_26 dX0_addFillers_22 ?_
    refine lv_icmp_gt (tgt := 74) hx hb dX0_addFillers_25 (by decide) (fun hc => ?_) (fun hc => ?_)
    · replace hM := h_t hc hM
      cases h_e hM
      exact a_vret C hw dX0_addFillers_74
    · replace hM := h_f hc hM
      refine lv_aload_n hx hb dX0_addFillers_28 rfl (lv_at hl 0 rfl) ?_
      refine a_getp (q := 36) (σ := aG ι) (o := 35) (T := TX0) (N := 6) C wU_X0 hw rfl (by decide) rfl 5 (by decide) rfl wF_X0_29 (aG_P rfl rfl) dX0_addFillers_29 ?_
      refine lv_iload hx hb dX0_addFillers_32 (lv_at hl 6 rfl) ?_
      obtain ⟨hi, hM⟩ := h_i hM
      refine a_iald (σ := aG ι) (o := 36) C hw rfl hi rfl dX0_addFillers_34 ?_
      refine lv_i2l hx hb dX0_addFillers_35 rfl ?_
      refine lv_lstore (lv' := [(9, .long ((gI ι 36 y8.toNatClampNeg)).toInt64), (0, .ref (ad 35)), (1, .int y1), (2, .int y2), (3, .int y3), (4, .long y4), (6, .long y6), (8, .int y8)]) hx hb dX0_addFillers_36 hl (by decide) rfl (fun ls hl => ?_)
      refine lv_aload_n hx hb dX0_addFillers_38 rfl (lv_at hl 1 rfl) ?_
      refine lv_iload hx hb dX0_addFillers_39 (lv_at hl 7 rfl) ?_
      refine lv_iconst (v := (1 : Int32)) hx hb dX0_addFillers_41 (by decide) ?_
      refine lv_iadd hx hb dX0_addFillers_42 ?_
      refine lv_iload_n hx hb dX0_addFillers_43 rfl (lv_at hl 3 rfl) ?_
      refine lv_iconst (v := (1 : Int32)) hx hb dX0_addFillers_44 (by decide) ?_
      refine lv_isub hx hb dX0_addFillers_45 ?_
      refine lv_iload_n hx hb dX0_addFillers_46 rfl (lv_at hl 4 rfl) ?_
      refine lv_iconst (v := (1 : Int32)) hx hb dX0_addFillers_47 (by decide) ?_
      refine lv_iload hx hb dX0_addFillers_48 (lv_at hl 7 rfl) ?_
      refine lv_ishl hx hb dX0_addFillers_50 ?_
      refine lv_ior hx hb dX0_addFillers_51 ?_
      refine lv_lload hx hb dX0_addFillers_52 (lv_at hl 5 rfl) ?_
      refine lv_lload hx hb dX0_addFillers_54 (lv_at hl 0 rfl) ?_
      refine lv_ladd hx hb dX0_addFillers_56 ?_
      refine lv_lload hx hb dX0_addFillers_57 (lv_at hl 6 rfl) ?_
      refine lv_lload hx hb dX0_addFillers_59 (lv_at hl 0 rfl) ?_
      refine lv_lload hx hb dX0_addFillers_61 (lv_at hl 0 rfl) ?_
      refine lv_lmul hx hb dX0_addFillers_63 ?_
      refine lv_ladd hx hb dX0_addFillers_64 ?_
      obtain ⟨r65, hr65, hM⟩ := h_b hM
      refine a_callV (σ' := aG r65) (v := none) (As := fun ad => [.int (y8 + (1 : Int32)), .int (y2 - (1 : Int32)), .int (y3 ||| ((1 : Int32) <<< (y8 &&& 31))), .long (y4 + ((gI ι 36 y8.toNatClampNeg)).toInt64), .long (y6 + (((gI ι 36 y8.toNatClampNeg)).toInt64 * ((gI ι 36 y8.toNatClampNeg)).toInt64))]) (rest := []) (o := 35) C hw (hF hr65) k_X0_addFillers wM_X0_43 ⟨⟨rfl, rfl⟩, ⟨by simp only [aRm]; omega, by simp only [aRm]; omega⟩⟩ rfl (by decide) rfl rfl rfl hl rfl (Nat.le_of_ble_eq_true rfl) dX0_addFillers_65 ⟨Nat.zero_le _, Nat.zero_le _⟩ (fun H locs hw => ?_)
      refine lv_iinc (v := (y8 + 1)) (lv' := [(8, .int (y8 + 1)), (9, .long ((gI ι 36 y8.toNatClampNeg)).toInt64), (0, .ref (ad 35)), (1, .int y1), (2, .int y2), (3, .int y3), (4, .long y4), (6, .long y6)]) hx hb dX0_addFillers_68 hl (k := 7) rfl rfl (by decide) rfl (fun ls hl => ?_)
      refine lv_goto (tgt := 17) hx hb dX0_addFillers_71 (by decide) ?_
      exact ih (y1) (y2) (y3) (y4) (y6) ((y8 + 1)) hM hw (lv_sub hl [2, 3, 4, 5, 6, 7, 0] rfl)
set_option maxHeartbeats 400000 in
set_option maxRecDepth 100000 in
theorem c_X0_addFillers (l : Launch) : ∀ (d : Nat) {x1 : Int32} {x2 : Int32} {x3 : Int32} {x4 : Int64} {x5 : Int64} {ι : iS} {res : iS}, m_X0_addFillers d x1 x2 x3 x4 x5 ι = some res → aM l yX0_addFillers cX0_addFillers 11 none (aRm (40 + d) (1000 + 30 * d)) (fun ad => [.ref (ad 35), .int x1, .int x2, .int x3, .long x4, .long x5]) (aG ι) none (aG res) := by
  intro d
  induction d with
  | zero => intro x1 x2 x3 x4 x5 ι res hM; simp [m_X0_addFillers] at hM
  | succ d ih =>
    intro x1 x2 x3 x4 x5 ι res hM
    rw [m_X0_addFillers] at hM
    refine aM.of (by decide) (fun _ => Nat.le_of_ble_eq_true rfl) ?_
    intro p e s m args below meth c D dA ad adV A ls C hw hl
    have C : aX p m c cX0_addFillers 11 s args aTs RX0 meth none := C
    have hx := C.1.1
    have hb := C.1.2.1
    have hml := C.1.2.2.1
    have hown := C.1.2.2.2.1
    have hts := C.1.2.2.2.2
    have hl : lv_has ls 11 [(0, .ref (ad 35)), (1, .int x1), (2, .int x2), (3, .int x3), (4, .long x4), (6, .long x5)] := hl
    refine lv_iload_n hx hb dX0_addFillers_0 rfl (lv_at hl 2 rfl) ?_
    refine lv_if_gt (tgt := 14) hx hb dX0_addFillers_1 (by decide) (fun hc => ?_) (fun hc => ?_)
    · replace hM := h_t hc hM
      refine lv_iload_n hx hb dX0_addFillers_14 rfl (lv_at hl 1 rfl) ?_
      refine lv_istore (lv' := [(8, .int x1), (0, .ref (ad 35)), (1, .int x1), (2, .int x2), (3, .int x3), (4, .long x4), (6, .long x5)]) hx hb dX0_addFillers_15 hl (by decide) rfl (fun ls hl => ?_)
      exact tl_X0_addFillers_17 l C (f := 40 + d) (w := 1000 + 30 * d) (by omega) (by omega) (by simp only [aRm]; omega) (by simp only [aRm]; omega) (fun h => ih h) aF (x1) (x2) (x3) (x4) (x5) (x1) hM hw (lv_sub hl [1, 2, 3, 4, 5, 6, 0] rfl)
    · replace hM := h_f hc hM
      refine lv_aload_n hx hb dX0_addFillers_4 rfl (lv_at hl 0 rfl) ?_
      refine lv_iload_n hx hb dX0_addFillers_5 rfl (lv_at hl 3 rfl) ?_
      refine lv_lload hx hb dX0_addFillers_6 (lv_at hl 4 rfl) ?_
      refine lv_lload hx hb dX0_addFillers_8 (lv_at hl 5 rfl) ?_
      obtain ⟨r10, hr10, hM⟩ := h_b hM
      refine a_callV (σ' := aG r10) (v := none) (As := fun ad => [.int x3, .long x4, .long x5]) (rest := []) (o := 35) C hw (c_X0_weigh l hr10) k_X0_weigh wM_X0_47 ⟨⟨rfl, rfl⟩, ⟨by simp only [rm_X0_weigh, aRm]; omega, by simp only [rm_X0_weigh, aRm]; omega⟩⟩ rfl (by decide) rfl rfl rfl hl rfl (Nat.le_of_ble_eq_true rfl) dX0_addFillers_10 ⟨Nat.zero_le _, Nat.zero_le _⟩ (fun H locs hw => ?_)
      cases h_e hM
      exact a_vret C hw dX0_addFillers_13
