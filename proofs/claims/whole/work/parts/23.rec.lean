def l_X3_readProduct_8 (F : Int32 → iS → Option (Int32 × iS)) : Nat → Int32 → Int32 → Int32 → iS → Option (Int32 × iS)
  | 0, _, _, _, _ => none
  | n + 1, y1, y2, y3, ι => if (500 : Int32) ≤ y3 then if y2 = 0 ∨ y2 = 1 then some (y2, ι) else none else if y2 = 0 then if y2 = 0 ∨ y2 = 1 then some (y2, ι) else none else Option.bind (m_X4_isSign (gI ι 11 5) (42 : Int32) ι) fun r29 => if r29.1 = 0 then if y2 = 0 ∨ y2 = 1 then some (y2, r29.2) else none else Option.bind (F y1 (pI r29.2 11 5 ((gI r29.2 11 5) + (1 : Int32)))) fun r47 => Option.bind (m_X1_add (7 : Int32) (0 : Int32) r47.2) fun r58 => l_X3_readProduct_8 F n y1 r47.1 (y3 + 1) r58
def m_X3_readProduct (F : Int32 → iS → Option (Int32 × iS)) (x1 : Int32) (ι : iS) : Option (Int32 × iS) := Option.bind (F x1 ι) fun r2 => l_X3_readProduct_8 F aF x1 r2.1 (0 : Int32) r2.2
def l_X3_readSum_8 (F : Int32 → iS → Option (Int32 × iS)) : Nat → Int32 → Int32 → Int32 → iS → Option (Int32 × iS)
  | 0, _, _, _, _ => none
  | n + 1, y1, y2, y3, ι => if (500 : Int32) ≤ y3 then if y2 = 0 ∨ y2 = 1 then some (y2, ι) else none else if y2 = 0 then if y2 = 0 ∨ y2 = 1 then some (y2, ι) else none else Option.bind (m_X4_isSign (gI ι 11 5) (43 : Int32) ι) fun r29 => if r29.1 = 0 then Option.bind (m_X4_isSign (gI r29.2 11 5) (45 : Int32) r29.2) fun r49 => if r49.1 = 0 then some ((1 : Int32), r49.2) else Option.bind (m_X3_readProduct F y1 (pI r49.2 11 5 ((gI r49.2 11 5) + (1 : Int32)))) fun r69 => if r29.1 = 0 then Option.bind (m_X1_add (6 : Int32) (0 : Int32) r69.2) fun r89 => l_X3_readSum_8 F n y1 r69.1 (y3 + 1) r89 else Option.bind (m_X1_add (5 : Int32) (0 : Int32) r69.2) fun r89 => l_X3_readSum_8 F n y1 r69.1 (y3 + 1) r89 else Option.bind (m_X3_readProduct F y1 (pI r29.2 11 5 ((gI r29.2 11 5) + (1 : Int32)))) fun r69 => if r29.1 = 0 then Option.bind (m_X1_add (6 : Int32) (0 : Int32) r69.2) fun r89 => l_X3_readSum_8 F n y1 r69.1 (y3 + 1) r89 else Option.bind (m_X1_add (5 : Int32) (0 : Int32) r69.2) fun r89 => l_X3_readSum_8 F n y1 r69.1 (y3 + 1) r89
def m_X3_readSum (F : Int32 → iS → Option (Int32 × iS)) (x1 : Int32) (ι : iS) : Option (Int32 × iS) := Option.bind (m_X3_readProduct F x1 ι) fun r2 => l_X3_readSum_8 F aF x1 r2.1 (0 : Int32) r2.2
def m_X3_readUnit : Nat → Int32 → iS → Option (Int32 × iS)
  | 0, _, _ => none
  | d + 1, x1, ι => Option.bind (m_X4_isSign (gI ι 11 5) (45 : Int32) ι) fun r10 => if r10.1 = 0 then Option.bind (m_X4_isSign (gI r10.2 11 5) (40 : Int32) r10.2) fun r28 => if r28.1 = 0 then Option.bind (m_X3_readLeaf r28.2) fun r35 => if r35.1 = 0 ∨ r35.1 = 1 then some (r35.1, r35.2) else none else if x1 < (4 : Int32) then if r10.1 = 0 then Option.bind (m_X3_readSum (m_X3_readUnit d) (x1 + (1 : Int32)) (pI r28.2 11 5 ((gI r28.2 11 5) + (1 : Int32)))) fun r68 => if r68.1 = 0 then some ((0 : Int32), r68.2) else Option.bind (m_X3_readSign (41 : Int32) r68.2) fun r77 => if r77.1 = 0 then some ((0 : Int32), r77.2) else some ((1 : Int32), r77.2) else Option.bind (m_X3_readUnit d (x1 + (1 : Int32)) (pI r28.2 11 5 ((gI r28.2 11 5) + (1 : Int32)))) fun r93 => Option.bind (m_X1_add (4 : Int32) (0 : Int32) r93.2) fun r103 => if r93.1 = 0 ∨ r93.1 = 1 then some (r93.1, r103) else none else Option.bind (m_X3_fail (4 : Int32) r28.2) fun r46 => if r46.1 = 0 ∨ r46.1 = 1 then some (r46.1, r46.2) else none else if x1 < (4 : Int32) then if r10.1 = 0 then Option.bind (m_X3_readSum (m_X3_readUnit d) (x1 + (1 : Int32)) (pI r10.2 11 5 ((gI r10.2 11 5) + (1 : Int32)))) fun r68 => if r68.1 = 0 then some ((0 : Int32), r68.2) else Option.bind (m_X3_readSign (41 : Int32) r68.2) fun r77 => if r77.1 = 0 then some ((0 : Int32), r77.2) else some ((1 : Int32), r77.2) else Option.bind (m_X3_readUnit d (x1 + (1 : Int32)) (pI r10.2 11 5 ((gI r10.2 11 5) + (1 : Int32)))) fun r93 => Option.bind (m_X1_add (4 : Int32) (0 : Int32) r93.2) fun r103 => if r93.1 = 0 ∨ r93.1 = 1 then some (r93.1, r103) else none else Option.bind (m_X3_fail (4 : Int32) r10.2) fun r46 => if r46.1 = 0 ∨ r46.1 = 1 then some (r46.1, r46.2) else none
theorem k_X3_readProduct : aCal RX3 yX3_readProduct cX3_readProduct 4 (some .boolean) 1 := ⟨wI_yX3_readProduct, wE_yX3_readProduct, wZ_X3, wC_yX3_readProduct, by decide +kernel⟩
theorem k_X3_readSum : aCal RX3 yX3_readSum cX3_readSum 5 (some .boolean) 1 := ⟨wI_yX3_readSum, wE_yX3_readSum, wZ_X3, wC_yX3_readSum, by decide +kernel⟩
theorem k_X3_readUnit : aCal RX3 yX3_readUnit cX3_readUnit 4 (some .boolean) 1 := ⟨wI_yX3_readUnit, wE_yX3_readUnit, wZ_X3, wC_yX3_readUnit, by decide +kernel⟩
set_option maxHeartbeats 4000000 in
set_option maxRecDepth 100000 in
theorem tl_X3_readProduct_8 (l : Launch) {p : Program} {e : Env} {s : State} {m : MethodId} {args : Array Value} {below : List Frame} {meth : Method} {c : Code} {D : va_G} {dA : Nat → ClassId} {ad adV : Nat → Nat} {A : Nat → Prop} (C : aX p m c cX3_readProduct 4 s args aTs RX3 meth (some .boolean)) {F : Int32 → iS → Option (Int32 × iS)} {f w : Nat} (hf : 40 ≤ f) (hw9 : 1000 ≤ w) (hF : ∀ {x1 : Int32} {ι : iS} {res : Int32 × iS}, F x1 ι = some res → aM l yX3_readUnit cX3_readUnit 4 (some .boolean) (aRm f w) (fun ad => [.ref (ad 11), .int x1]) (aG ι) (some (.int res.1)) (aG res.2)) {res : Int32 × iS} : ∀ (n : Nat) (y1 : Int32) (y2 : Int32) (y3 : Int32) {ι : iS}, l_X3_readProduct_8 F n y1 y2 y3 ι = some res → ∀ {H : Heap} {locs : List Loc} {ls : Array Slot}, aW D dA ad adV (aG ι) A s H locs → lv_has ls 4 [(0, .ref (ad 11)), (1, .int y1), (2, .int y2), (3, .int y3)] → W p l e (aRm (f + 1) (w + 23)) s m args below meth c H locs 0 0 (MQ below (aQ D dA ad (aG res.2) A (some (.int res.1))) args s 0 0 A) (F0 m 8 ls []) := by
  have hx := C.1.1
  have hb := C.1.2.1
  have hml := C.1.2.2.1
  have hown := C.1.2.2.2.1
  have hts := C.1.2.2.2.2
  intro n
  induction n with
  | zero => intro y1 y2 y3 ι hM; simp [l_X3_readProduct_8] at hM
  | succ n ih =>
    intro y1 y2 y3 ι hM H locs ls hw hl
    rw [l_X3_readProduct_8] at hM
    refine lv_iload_n hx hb dX3_readProduct_8 rfl (lv_at hl 3 rfl) ?_
    refine lv_sipush (v := (500 : Int32)) hx hb dX3_readProduct_9 (by decide) ?_
    refine lv_icmp_ge (tgt := 67) hx hb dX3_readProduct_12 (by decide) (fun hc => ?_) (fun hc => ?_)
    · replace hM := h_t hc hM
      refine lv_iload_n hx hb dX3_readProduct_67 rfl (lv_at hl 2 rfl) ?_
      obtain ⟨hz, hM⟩ := h_g hM
      cases h_e hM
      exact a_zret C (zn hz) hw dX3_readProduct_68
    · replace hM := h_f hc hM
      refine lv_iload_n hx hb dX3_readProduct_15 rfl (lv_at hl 2 rfl) ?_
      refine lv_if_eq (tgt := 67) hx hb dX3_readProduct_16 (by decide) (fun hc => ?_) (fun hc => ?_)
      · replace hM := h_t hc hM
        refine lv_iload_n hx hb dX3_readProduct_67 rfl (lv_at hl 2 rfl) ?_
        obtain ⟨hz, hM⟩ := h_g hM
        cases h_e hM
        exact a_zret C (zn hz) hw dX3_readProduct_68
      · replace hM := h_f hc hM
        refine lv_aload_n hx hb dX3_readProduct_19 rfl (lv_at hl 0 rfl) ?_
        refine a_getp (q := 24) (σ := aG ι) (o := 11) (T := TX3) (N := 7) C wU_X3 hw rfl (by decide) rfl 3 (by decide) rfl wF_X3_32 (aG_P rfl rfl) dX3_readProduct_20 ?_
        refine lv_aload_n hx hb dX3_readProduct_23 rfl (lv_at hl 0 rfl) ?_
        refine a_geti (σ := aG ι) (o := 11) (T := TX3) (N := 7) C wU_X3 hw rfl (by decide) rfl 5 (by decide) rfl wF_X3_39 dX3_readProduct_24 ?_
        refine lv_bipush (v := (42 : Int32)) hx hb dX3_readProduct_27 (by decide) ?_
        obtain ⟨r29, hr29, hM⟩ := h_b hM
        refine a_callV (σ' := aG r29.2) (v := (some (.int r29.1))) (As := fun ad => [.int (gI ι 11 5), .int (42 : Int32)]) (rest := []) (o := 24) C hw (c_X4_isSign l hr29) k_X4_isSign wM_X3_155 ⟨⟨rfl, rfl⟩, ⟨by simp only [rm_X4_isSign, aRm]; omega, by simp only [rm_X4_isSign, aRm]; omega⟩⟩ rfl (by decide) rfl rfl rfl hl rfl (Nat.le_of_ble_eq_true rfl) dX3_readProduct_29 ⟨Nat.zero_le _, Nat.zero_le _⟩ (fun H locs hw => ?_)
        refine lv_if_eq (tgt := 67) hx hb dX3_readProduct_32 (by decide) (fun hc => ?_) (fun hc => ?_)
        · replace hM := h_t hc hM
          refine lv_iload_n hx hb dX3_readProduct_67 rfl (lv_at hl 2 rfl) ?_
          obtain ⟨hz, hM⟩ := h_g hM
          cases h_e hM
          exact a_zret C (zn hz) hw dX3_readProduct_68
        · replace hM := h_f hc hM
          refine lv_aload_n hx hb dX3_readProduct_35 rfl (lv_at hl 0 rfl) ?_
          refine lv_dup hx hb dX3_readProduct_36 rfl ?_
          refine a_geti (σ := aG r29.2) (o := 11) (T := TX3) (N := 7) C wU_X3 hw rfl (by decide) rfl 5 (by decide) rfl wF_X3_39 dX3_readProduct_37 ?_
          refine lv_iconst (v := (1 : Int32)) hx hb dX3_readProduct_40 (by decide) ?_
          refine lv_iadd hx hb dX3_readProduct_41 ?_
          refine a_puti (ty := .int) (σ := aG r29.2) (o := 11) (T := TX3) (N := 7) (ty0 := tyX3) C wU_X3 tyX3_ok nmX3 hw rfl (by decide) rfl 5 (by decide) rfl wF_X3_39 rfl (by decide +kernel) rfl rfl dX3_readProduct_42 (fun H locs hw => ?_)
          have hw : aW D dA ad adV (aG (pI r29.2 11 5 ((gI r29.2 11 5) + (1 : Int32)))) A s H locs := by rw [aG_PI] at hw; exact hw
          refine lv_aload_n hx hb dX3_readProduct_45 rfl (lv_at hl 0 rfl) ?_
          refine lv_iload_n hx hb dX3_readProduct_46 rfl (lv_at hl 1 rfl) ?_
          obtain ⟨r47, hr47, hM⟩ := h_b hM
          refine a_callV (σ' := aG r47.2) (v := (some (.int r47.1))) (As := fun ad => [.int y1]) (rest := []) (o := 11) C hw (hF hr47) k_X3_readUnit wM_X3_172 ⟨⟨rfl, rfl⟩, ⟨by simp only [aRm]; omega, by simp only [aRm]; omega⟩⟩ rfl (by decide) rfl rfl rfl hl rfl (Nat.le_of_ble_eq_true rfl) dX3_readProduct_47 ⟨Nat.zero_le _, Nat.zero_le _⟩ (fun H locs hw => ?_)
          refine lv_istore_n (lv' := [(2, .int r47.1), (0, .ref (ad 11)), (1, .int y1), (3, .int y3)]) hx hb dX3_readProduct_50 rfl hl (by decide) rfl (fun ls hl => ?_)
          refine lv_aload_n hx hb dX3_readProduct_51 rfl (lv_at hl 1 rfl) ?_
          refine a_getp (q := 21) (σ := aG r47.2) (o := 11) (T := TX3) (N := 7) C wU_X3 hw rfl (by decide) rfl 1 (by decide) rfl wF_X3_21 (aG_P rfl rfl) dX3_readProduct_52 ?_
          refine lv_bipush (v := (7 : Int32)) hx hb dX3_readProduct_55 (by decide) ?_
          refine lv_iconst (v := (0 : Int32)) hx hb dX3_readProduct_57 (by decide) ?_
          obtain ⟨r58, hr58, hM⟩ := h_b hM
          refine a_callV (σ' := aG r58) (v := none) (As := fun ad => [.int (7 : Int32), .int (0 : Int32)]) (rest := []) (o := 21) C hw (c_X1_add l hr58) k_X1_add wM_X3_168 ⟨⟨rfl, rfl⟩, ⟨by simp only [rm_X1_add, aRm]; omega, by simp only [rm_X1_add, aRm]; omega⟩⟩ rfl (by decide) rfl rfl rfl hl rfl (Nat.le_of_ble_eq_true rfl) dX3_readProduct_58 ⟨Nat.zero_le _, Nat.zero_le _⟩ (fun H locs hw => ?_)
          refine lv_iinc (v := (y3 + 1)) (lv' := [(3, .int (y3 + 1)), (2, .int r47.1), (0, .ref (ad 11)), (1, .int y1)]) hx hb dX3_readProduct_61 hl (k := 3) rfl rfl (by decide) rfl (fun ls hl => ?_)
          refine lv_goto (tgt := 8) hx hb dX3_readProduct_64 (by decide) ?_
          exact ih (y1) (r47.1) ((y3 + 1)) hM hw (lv_sub hl [2, 3, 1, 0] rfl)
set_option maxHeartbeats 4000000 in
set_option maxRecDepth 100000 in
theorem c_X3_readProduct (l : Launch) {F : Int32 → iS → Option (Int32 × iS)} {f w : Nat} (hf : 40 ≤ f) (hw9 : 1000 ≤ w) (hF : ∀ {x1 : Int32} {ι : iS} {res : Int32 × iS}, F x1 ι = some res → aM l yX3_readUnit cX3_readUnit 4 (some .boolean) (aRm f w) (fun ad => [.ref (ad 11), .int x1]) (aG ι) (some (.int res.1)) (aG res.2)) {x1 : Int32} {ι : iS} {res : Int32 × iS} (hM : m_X3_readProduct F x1 ι = some res) : aM l yX3_readProduct cX3_readProduct 4 (some .boolean) (aRm (f + 1) (w + 23)) (fun ad => [.ref (ad 11), .int x1]) (aG ι) (some (.int res.1)) (aG res.2) := by
  refine aM.of (by decide) (fun _ => Nat.le_of_ble_eq_true rfl) ?_
  intro p e s m args below meth c D dA ad adV A ls C hw hl
  have C : aX p m c cX3_readProduct 4 s args aTs RX3 meth (some .boolean) := C
  have hx := C.1.1
  have hb := C.1.2.1
  have hml := C.1.2.2.1
  have hown := C.1.2.2.2.1
  have hts := C.1.2.2.2.2
  have hl : lv_has ls 4 [(0, .ref (ad 11)), (1, .int x1)] := hl
  unfold m_X3_readProduct at hM
  refine lv_aload_n hx hb dX3_readProduct_0 rfl (lv_at hl 0 rfl) ?_
  refine lv_iload_n hx hb dX3_readProduct_1 rfl (lv_at hl 1 rfl) ?_
  obtain ⟨r2, hr2, hM⟩ := h_b hM
  refine a_callV (σ' := aG r2.2) (v := (some (.int r2.1))) (As := fun ad => [.int x1]) (rest := []) (o := 11) C hw (hF hr2) k_X3_readUnit wM_X3_172 ⟨⟨rfl, rfl⟩, ⟨by simp only [aRm]; omega, by simp only [aRm]; omega⟩⟩ rfl (by decide) rfl rfl rfl hl rfl (Nat.le_of_ble_eq_true rfl) dX3_readProduct_2 ⟨Nat.zero_le _, Nat.zero_le _⟩ (fun H locs hw => ?_)
  refine lv_istore_n (lv' := [(2, .int r2.1), (0, .ref (ad 11)), (1, .int x1)]) hx hb dX3_readProduct_5 rfl hl (by decide) rfl (fun ls hl => ?_)
  refine lv_iconst (v := (0 : Int32)) hx hb dX3_readProduct_6 (by decide) ?_
  refine lv_istore_n (lv' := [(3, .int (0 : Int32)), (2, .int r2.1), (0, .ref (ad 11)), (1, .int x1)]) hx hb dX3_readProduct_7 rfl hl (by decide) rfl (fun ls hl => ?_)
  exact tl_X3_readProduct_8 l C hf hw9 (fun h => hF h) aF (x1) (r2.1) ((0 : Int32)) hM hw (lv_sub hl [2, 3, 1, 0] rfl)
set_option maxHeartbeats 4000000 in
set_option maxRecDepth 100000 in
theorem tl_X3_readSum_8 (l : Launch) {p : Program} {e : Env} {s : State} {m : MethodId} {args : Array Value} {below : List Frame} {meth : Method} {c : Code} {D : va_G} {dA : Nat → ClassId} {ad adV : Nat → Nat} {A : Nat → Prop} (C : aX p m c cX3_readSum 5 s args aTs RX3 meth (some .boolean)) {F : Int32 → iS → Option (Int32 × iS)} {f w : Nat} (hf : 40 ≤ f) (hw9 : 1000 ≤ w) (hF : ∀ {x1 : Int32} {ι : iS} {res : Int32 × iS}, F x1 ι = some res → aM l yX3_readUnit cX3_readUnit 4 (some .boolean) (aRm f w) (fun ad => [.ref (ad 11), .int x1]) (aG ι) (some (.int res.1)) (aG res.2)) {res : Int32 × iS} : ∀ (n : Nat) (y1 : Int32) (y2 : Int32) (y3 : Int32) {ι : iS}, l_X3_readSum_8 F n y1 y2 y3 ι = some res → ∀ {H : Heap} {locs : List Loc} {ls : Array Slot}, aW D dA ad adV (aG ι) A s H locs → lv_has ls 5 [(0, .ref (ad 11)), (1, .int y1), (2, .int y2), (3, .int y3)] → W p l e (aRm (f + 2) (w + 46)) s m args below meth c H locs 0 0 (MQ below (aQ D dA ad (aG res.2) A (some (.int res.1))) args s 0 0 A) (F0 m 8 ls []) := by
  have hx := C.1.1
  have hb := C.1.2.1
  have hml := C.1.2.2.1
  have hown := C.1.2.2.2.1
  have hts := C.1.2.2.2.2
  intro n
  induction n with
  | zero => intro y1 y2 y3 ι hM; simp [l_X3_readSum_8] at hM
  | succ n ih =>
    intro y1 y2 y3 ι hM H locs ls hw hl
    rw [l_X3_readSum_8] at hM
    refine lv_iload_n hx hb dX3_readSum_8 rfl (lv_at hl 3 rfl) ?_
    refine lv_sipush (v := (500 : Int32)) hx hb dX3_readSum_9 (by decide) ?_
    refine lv_icmp_ge (tgt := 98) hx hb dX3_readSum_12 (by decide) (fun hc => ?_) (fun hc => ?_)
    · replace hM := h_t hc hM
      refine lv_iload_n hx hb dX3_readSum_98 rfl (lv_at hl 2 rfl) ?_
      obtain ⟨hz, hM⟩ := h_g hM
      cases h_e hM
      exact a_zret C (zn hz) hw dX3_readSum_99
    · replace hM := h_f hc hM
      refine lv_iload_n hx hb dX3_readSum_15 rfl (lv_at hl 2 rfl) ?_
      refine lv_if_eq (tgt := 98) hx hb dX3_readSum_16 (by decide) (fun hc => ?_) (fun hc => ?_)
      · replace hM := h_t hc hM
        refine lv_iload_n hx hb dX3_readSum_98 rfl (lv_at hl 2 rfl) ?_
        obtain ⟨hz, hM⟩ := h_g hM
        cases h_e hM
        exact a_zret C (zn hz) hw dX3_readSum_99
      · replace hM := h_f hc hM
        refine lv_aload_n hx hb dX3_readSum_19 rfl (lv_at hl 0 rfl) ?_
        refine a_getp (q := 24) (σ := aG ι) (o := 11) (T := TX3) (N := 7) C wU_X3 hw rfl (by decide) rfl 3 (by decide) rfl wF_X3_32 (aG_P rfl rfl) dX3_readSum_20 ?_
        refine lv_aload_n hx hb dX3_readSum_23 rfl (lv_at hl 0 rfl) ?_
        refine a_geti (σ := aG ι) (o := 11) (T := TX3) (N := 7) C wU_X3 hw rfl (by decide) rfl 5 (by decide) rfl wF_X3_39 dX3_readSum_24 ?_
        refine lv_bipush (v := (43 : Int32)) hx hb dX3_readSum_27 (by decide) ?_
        obtain ⟨r29, hr29, hM⟩ := h_b hM
        refine a_callV (σ' := aG r29.2) (v := (some (.int r29.1))) (As := fun ad => [.int (gI ι 11 5), .int (43 : Int32)]) (rest := []) (o := 24) C hw (c_X4_isSign l hr29) k_X4_isSign wM_X3_155 ⟨⟨rfl, rfl⟩, ⟨by simp only [rm_X4_isSign, aRm]; omega, by simp only [rm_X4_isSign, aRm]; omega⟩⟩ rfl (by decide) rfl rfl rfl hl rfl (Nat.le_of_ble_eq_true rfl) dX3_readSum_29 ⟨Nat.zero_le _, Nat.zero_le _⟩ (fun H locs hw => ?_)
        refine lv_istore (lv' := [(4, .int r29.1), (0, .ref (ad 11)), (1, .int y1), (2, .int y2), (3, .int y3)]) hx hb dX3_readSum_32 hl (by decide) rfl (fun ls hl => ?_)
        refine lv_iload hx hb dX3_readSum_34 (lv_at hl 0 rfl) ?_
        refine lv_if_ne (tgt := 57) hx hb dX3_readSum_36 (by decide) (fun hc => ?_) (fun hc => ?_)
        · replace hM := h_f hc hM
          refine lv_aload_n hx hb dX3_readSum_57 rfl (lv_at hl 1 rfl) ?_
          refine lv_dup hx hb dX3_readSum_58 rfl ?_
          refine a_geti (σ := aG r29.2) (o := 11) (T := TX3) (N := 7) C wU_X3 hw rfl (by decide) rfl 5 (by decide) rfl wF_X3_39 dX3_readSum_59 ?_
          refine lv_iconst (v := (1 : Int32)) hx hb dX3_readSum_62 (by decide) ?_
          refine lv_iadd hx hb dX3_readSum_63 ?_
          refine a_puti (ty := .int) (σ := aG r29.2) (o := 11) (T := TX3) (N := 7) (ty0 := tyX3) C wU_X3 tyX3_ok nmX3 hw rfl (by decide) rfl 5 (by decide) rfl wF_X3_39 rfl (by decide +kernel) rfl rfl dX3_readSum_64 (fun H locs hw => ?_)
          have hw : aW D dA ad adV (aG (pI r29.2 11 5 ((gI r29.2 11 5) + (1 : Int32)))) A s H locs := by rw [aG_PI] at hw; exact hw
          refine lv_aload_n hx hb dX3_readSum_67 rfl (lv_at hl 1 rfl) ?_
          refine lv_iload_n hx hb dX3_readSum_68 rfl (lv_at hl 2 rfl) ?_
          obtain ⟨r69, hr69, hM⟩ := h_b hM
          refine a_callV (σ' := aG r69.2) (v := (some (.int r69.1))) (As := fun ad => [.int y1]) (rest := []) (o := 11) C hw (c_X3_readProduct l hf hw9 (fun h => hF h) hr69) k_X3_readProduct wM_X3_165 ⟨⟨rfl, rfl⟩, ⟨by simp only [aRm]; omega, by simp only [aRm]; omega⟩⟩ rfl (by decide) rfl rfl rfl hl rfl (Nat.le_of_ble_eq_true rfl) dX3_readSum_69 ⟨Nat.zero_le _, Nat.zero_le _⟩ (fun H locs hw => ?_)
          refine lv_istore_n (lv' := [(2, .int r69.1), (4, .int r29.1), (0, .ref (ad 11)), (1, .int y1), (3, .int y3)]) hx hb dX3_readSum_72 rfl hl (by decide) rfl (fun ls hl => ?_)
          refine lv_aload_n hx hb dX3_readSum_73 rfl (lv_at hl 2 rfl) ?_
          refine a_getp (q := 21) (σ := aG r69.2) (o := 11) (T := TX3) (N := 7) C wU_X3 hw rfl (by decide) rfl 1 (by decide) rfl wF_X3_21 (aG_P rfl rfl) dX3_readSum_74 ?_
          refine lv_iload hx hb dX3_readSum_77 (lv_at hl 1 rfl) ?_
          refine lv_if_eq (tgt := 86) hx hb dX3_readSum_79 (by decide) (fun hc => ?_) (fun hc => ?_)
          · replace hM := h_t hc hM
            refine lv_bipush (v := (6 : Int32)) hx hb dX3_readSum_86 (by decide) ?_
            refine lv_iconst (v := (0 : Int32)) hx hb dX3_readSum_88 (by decide) ?_
            obtain ⟨r89, hr89, hM⟩ := h_b hM
            refine a_callV (σ' := aG r89) (v := none) (As := fun ad => [.int (6 : Int32), .int (0 : Int32)]) (rest := []) (o := 21) C hw (c_X1_add l hr89) k_X1_add wM_X3_168 ⟨⟨rfl, rfl⟩, ⟨by simp only [rm_X1_add, aRm]; omega, by simp only [rm_X1_add, aRm]; omega⟩⟩ rfl (by decide) rfl rfl rfl hl rfl (Nat.le_of_ble_eq_true rfl) dX3_readSum_89 ⟨Nat.zero_le _, Nat.zero_le _⟩ (fun H locs hw => ?_)
            refine lv_iinc (v := (y3 + 1)) (lv' := [(3, .int (y3 + 1)), (2, .int r69.1), (4, .int r29.1), (0, .ref (ad 11)), (1, .int y1)]) hx hb dX3_readSum_92 hl (k := 4) rfl rfl (by decide) rfl (fun ls hl => ?_)
            refine lv_goto (tgt := 8) hx hb dX3_readSum_95 (by decide) ?_
            exact ih (y1) (r69.1) ((y3 + 1)) hM hw (lv_sub hl [3, 4, 1, 0] rfl)
          · replace hM := h_f hc hM
            refine lv_iconst (v := (5 : Int32)) hx hb dX3_readSum_82 (by decide) ?_
            refine lv_goto (tgt := 88) hx hb dX3_readSum_83 (by decide) ?_
            refine lv_iconst (v := (0 : Int32)) hx hb dX3_readSum_88 (by decide) ?_
            obtain ⟨r89, hr89, hM⟩ := h_b hM
            refine a_callV (σ' := aG r89) (v := none) (As := fun ad => [.int (5 : Int32), .int (0 : Int32)]) (rest := []) (o := 21) C hw (c_X1_add l hr89) k_X1_add wM_X3_168 ⟨⟨rfl, rfl⟩, ⟨by simp only [rm_X1_add, aRm]; omega, by simp only [rm_X1_add, aRm]; omega⟩⟩ rfl (by decide) rfl rfl rfl hl rfl (Nat.le_of_ble_eq_true rfl) dX3_readSum_89 ⟨Nat.zero_le _, Nat.zero_le _⟩ (fun H locs hw => ?_)
            refine lv_iinc (v := (y3 + 1)) (lv' := [(3, .int (y3 + 1)), (2, .int r69.1), (4, .int r29.1), (0, .ref (ad 11)), (1, .int y1)]) hx hb dX3_readSum_92 hl (k := 4) rfl rfl (by decide) rfl (fun ls hl => ?_)
            refine lv_goto (tgt := 8) hx hb dX3_readSum_95 (by decide) ?_
            exact ih (y1) (r69.1) ((y3 + 1)) hM hw (lv_sub hl [3, 4, 1, 0] rfl)
        · replace hM := h_t hc hM
          refine lv_aload_n hx hb dX3_readSum_39 rfl (lv_at hl 1 rfl) ?_
          refine a_getp (q := 24) (σ := aG r29.2) (o := 11) (T := TX3) (N := 7) C wU_X3 hw rfl (by decide) rfl 3 (by decide) rfl wF_X3_32 (aG_P rfl rfl) dX3_readSum_40 ?_
          refine lv_aload_n hx hb dX3_readSum_43 rfl (lv_at hl 1 rfl) ?_
          refine a_geti (σ := aG r29.2) (o := 11) (T := TX3) (N := 7) C wU_X3 hw rfl (by decide) rfl 5 (by decide) rfl wF_X3_39 dX3_readSum_44 ?_
          refine lv_bipush (v := (45 : Int32)) hx hb dX3_readSum_47 (by decide) ?_
          obtain ⟨r49, hr49, hM⟩ := h_b hM
          refine a_callV (σ' := aG r49.2) (v := (some (.int r49.1))) (As := fun ad => [.int (gI r29.2 11 5), .int (45 : Int32)]) (rest := []) (o := 24) C hw (c_X4_isSign l hr49) k_X4_isSign wM_X3_155 ⟨⟨rfl, rfl⟩, ⟨by simp only [rm_X4_isSign, aRm]; omega, by simp only [rm_X4_isSign, aRm]; omega⟩⟩ rfl (by decide) rfl rfl rfl hl rfl (Nat.le_of_ble_eq_true rfl) dX3_readSum_49 ⟨Nat.zero_le _, Nat.zero_le _⟩ (fun H locs hw => ?_)
          refine lv_if_ne (tgt := 57) hx hb dX3_readSum_52 (by decide) (fun hc => ?_) (fun hc => ?_)
          · replace hM := h_f hc hM
            refine lv_aload_n hx hb dX3_readSum_57 rfl (lv_at hl 1 rfl) ?_
            refine lv_dup hx hb dX3_readSum_58 rfl ?_
            refine a_geti (σ := aG r49.2) (o := 11) (T := TX3) (N := 7) C wU_X3 hw rfl (by decide) rfl 5 (by decide) rfl wF_X3_39 dX3_readSum_59 ?_
            refine lv_iconst (v := (1 : Int32)) hx hb dX3_readSum_62 (by decide) ?_
            refine lv_iadd hx hb dX3_readSum_63 ?_
            refine a_puti (ty := .int) (σ := aG r49.2) (o := 11) (T := TX3) (N := 7) (ty0 := tyX3) C wU_X3 tyX3_ok nmX3 hw rfl (by decide) rfl 5 (by decide) rfl wF_X3_39 rfl (by decide +kernel) rfl rfl dX3_readSum_64 (fun H locs hw => ?_)
            have hw : aW D dA ad adV (aG (pI r49.2 11 5 ((gI r49.2 11 5) + (1 : Int32)))) A s H locs := by rw [aG_PI] at hw; exact hw
            refine lv_aload_n hx hb dX3_readSum_67 rfl (lv_at hl 1 rfl) ?_
            refine lv_iload_n hx hb dX3_readSum_68 rfl (lv_at hl 2 rfl) ?_
            obtain ⟨r69, hr69, hM⟩ := h_b hM
            refine a_callV (σ' := aG r69.2) (v := (some (.int r69.1))) (As := fun ad => [.int y1]) (rest := []) (o := 11) C hw (c_X3_readProduct l hf hw9 (fun h => hF h) hr69) k_X3_readProduct wM_X3_165 ⟨⟨rfl, rfl⟩, ⟨by simp only [aRm]; omega, by simp only [aRm]; omega⟩⟩ rfl (by decide) rfl rfl rfl hl rfl (Nat.le_of_ble_eq_true rfl) dX3_readSum_69 ⟨Nat.zero_le _, Nat.zero_le _⟩ (fun H locs hw => ?_)
            refine lv_istore_n (lv' := [(2, .int r69.1), (4, .int r29.1), (0, .ref (ad 11)), (1, .int y1), (3, .int y3)]) hx hb dX3_readSum_72 rfl hl (by decide) rfl (fun ls hl => ?_)
            refine lv_aload_n hx hb dX3_readSum_73 rfl (lv_at hl 2 rfl) ?_
            refine a_getp (q := 21) (σ := aG r69.2) (o := 11) (T := TX3) (N := 7) C wU_X3 hw rfl (by decide) rfl 1 (by decide) rfl wF_X3_21 (aG_P rfl rfl) dX3_readSum_74 ?_
            refine lv_iload hx hb dX3_readSum_77 (lv_at hl 1 rfl) ?_
            refine lv_if_eq (tgt := 86) hx hb dX3_readSum_79 (by decide) (fun hc => ?_) (fun hc => ?_)
            · replace hM := h_t hc hM
              refine lv_bipush (v := (6 : Int32)) hx hb dX3_readSum_86 (by decide) ?_
              refine lv_iconst (v := (0 : Int32)) hx hb dX3_readSum_88 (by decide) ?_
              obtain ⟨r89, hr89, hM⟩ := h_b hM
              refine a_callV (σ' := aG r89) (v := none) (As := fun ad => [.int (6 : Int32), .int (0 : Int32)]) (rest := []) (o := 21) C hw (c_X1_add l hr89) k_X1_add wM_X3_168 ⟨⟨rfl, rfl⟩, ⟨by simp only [rm_X1_add, aRm]; omega, by simp only [rm_X1_add, aRm]; omega⟩⟩ rfl (by decide) rfl rfl rfl hl rfl (Nat.le_of_ble_eq_true rfl) dX3_readSum_89 ⟨Nat.zero_le _, Nat.zero_le _⟩ (fun H locs hw => ?_)
              refine lv_iinc (v := (y3 + 1)) (lv' := [(3, .int (y3 + 1)), (2, .int r69.1), (4, .int r29.1), (0, .ref (ad 11)), (1, .int y1)]) hx hb dX3_readSum_92 hl (k := 4) rfl rfl (by decide) rfl (fun ls hl => ?_)
              refine lv_goto (tgt := 8) hx hb dX3_readSum_95 (by decide) ?_
              exact ih (y1) (r69.1) ((y3 + 1)) hM hw (lv_sub hl [3, 4, 1, 0] rfl)
            · replace hM := h_f hc hM
              refine lv_iconst (v := (5 : Int32)) hx hb dX3_readSum_82 (by decide) ?_
              refine lv_goto (tgt := 88) hx hb dX3_readSum_83 (by decide) ?_
              refine lv_iconst (v := (0 : Int32)) hx hb dX3_readSum_88 (by decide) ?_
              obtain ⟨r89, hr89, hM⟩ := h_b hM
              refine a_callV (σ' := aG r89) (v := none) (As := fun ad => [.int (5 : Int32), .int (0 : Int32)]) (rest := []) (o := 21) C hw (c_X1_add l hr89) k_X1_add wM_X3_168 ⟨⟨rfl, rfl⟩, ⟨by simp only [rm_X1_add, aRm]; omega, by simp only [rm_X1_add, aRm]; omega⟩⟩ rfl (by decide) rfl rfl rfl hl rfl (Nat.le_of_ble_eq_true rfl) dX3_readSum_89 ⟨Nat.zero_le _, Nat.zero_le _⟩ (fun H locs hw => ?_)
              refine lv_iinc (v := (y3 + 1)) (lv' := [(3, .int (y3 + 1)), (2, .int r69.1), (4, .int r29.1), (0, .ref (ad 11)), (1, .int y1)]) hx hb dX3_readSum_92 hl (k := 4) rfl rfl (by decide) rfl (fun ls hl => ?_)
              refine lv_goto (tgt := 8) hx hb dX3_readSum_95 (by decide) ?_
              exact ih (y1) (r69.1) ((y3 + 1)) hM hw (lv_sub hl [3, 4, 1, 0] rfl)
          · replace hM := h_t hc hM
            refine lv_iconst (v := (1 : Int32)) hx hb dX3_readSum_55 (by decide) ?_
            cases h_e hM
            exact a_zret C (zn (v := 1) (Or.inr rfl)) hw dX3_readSum_56
set_option maxHeartbeats 4000000 in
set_option maxRecDepth 100000 in
theorem c_X3_readSum (l : Launch) {F : Int32 → iS → Option (Int32 × iS)} {f w : Nat} (hf : 40 ≤ f) (hw9 : 1000 ≤ w) (hF : ∀ {x1 : Int32} {ι : iS} {res : Int32 × iS}, F x1 ι = some res → aM l yX3_readUnit cX3_readUnit 4 (some .boolean) (aRm f w) (fun ad => [.ref (ad 11), .int x1]) (aG ι) (some (.int res.1)) (aG res.2)) {x1 : Int32} {ι : iS} {res : Int32 × iS} (hM : m_X3_readSum F x1 ι = some res) : aM l yX3_readSum cX3_readSum 5 (some .boolean) (aRm (f + 2) (w + 46)) (fun ad => [.ref (ad 11), .int x1]) (aG ι) (some (.int res.1)) (aG res.2) := by
  refine aM.of (by decide) (fun _ => Nat.le_of_ble_eq_true rfl) ?_
  intro p e s m args below meth c D dA ad adV A ls C hw hl
  have C : aX p m c cX3_readSum 5 s args aTs RX3 meth (some .boolean) := C
  have hx := C.1.1
  have hb := C.1.2.1
  have hml := C.1.2.2.1
  have hown := C.1.2.2.2.1
  have hts := C.1.2.2.2.2
  have hl : lv_has ls 5 [(0, .ref (ad 11)), (1, .int x1)] := hl
  unfold m_X3_readSum at hM
  refine lv_aload_n hx hb dX3_readSum_0 rfl (lv_at hl 0 rfl) ?_
  refine lv_iload_n hx hb dX3_readSum_1 rfl (lv_at hl 1 rfl) ?_
  obtain ⟨r2, hr2, hM⟩ := h_b hM
  refine a_callV (σ' := aG r2.2) (v := (some (.int r2.1))) (As := fun ad => [.int x1]) (rest := []) (o := 11) C hw (c_X3_readProduct l hf hw9 (fun h => hF h) hr2) k_X3_readProduct wM_X3_165 ⟨⟨rfl, rfl⟩, ⟨by simp only [aRm]; omega, by simp only [aRm]; omega⟩⟩ rfl (by decide) rfl rfl rfl hl rfl (Nat.le_of_ble_eq_true rfl) dX3_readSum_2 ⟨Nat.zero_le _, Nat.zero_le _⟩ (fun H locs hw => ?_)
  refine lv_istore_n (lv' := [(2, .int r2.1), (0, .ref (ad 11)), (1, .int x1)]) hx hb dX3_readSum_5 rfl hl (by decide) rfl (fun ls hl => ?_)
  refine lv_iconst (v := (0 : Int32)) hx hb dX3_readSum_6 (by decide) ?_
  refine lv_istore_n (lv' := [(3, .int (0 : Int32)), (2, .int r2.1), (0, .ref (ad 11)), (1, .int x1)]) hx hb dX3_readSum_7 rfl hl (by decide) rfl (fun ls hl => ?_)
  exact tl_X3_readSum_8 l C hf hw9 (fun h => hF h) aF (x1) (r2.1) ((0 : Int32)) hM hw (lv_sub hl [2, 3, 1, 0] rfl)
set_option maxHeartbeats 4000000 in
set_option maxRecDepth 100000 in
theorem c_X3_readUnit (l : Launch) : ∀ (d : Nat) {x1 : Int32} {ι : iS} {res : Int32 × iS}, m_X3_readUnit d x1 ι = some res → aM l yX3_readUnit cX3_readUnit 4 (some .boolean) (aRm (40 + 3 * d) (1000 + 70 * d)) (fun ad => [.ref (ad 11), .int x1]) (aG ι) (some (.int res.1)) (aG res.2) := by
  intro d
  induction d with
  | zero => intro x1 ι res hM; simp [m_X3_readUnit] at hM
  | succ d ih =>
    intro x1 ι res hM
    rw [m_X3_readUnit] at hM
    refine aM.of (by decide) (fun _ => Nat.le_of_ble_eq_true rfl) ?_
    intro p e s m args below meth c D dA ad adV A ls C hw hl
    have C : aX p m c cX3_readUnit 4 s args aTs RX3 meth (some .boolean) := C
    have hx := C.1.1
    have hb := C.1.2.1
    have hml := C.1.2.2.1
    have hown := C.1.2.2.2.1
    have hts := C.1.2.2.2.2
    have hl : lv_has ls 4 [(0, .ref (ad 11)), (1, .int x1)] := hl
    refine lv_aload_n hx hb dX3_readUnit_0 rfl (lv_at hl 0 rfl) ?_
    refine a_getp (q := 24) (σ := aG ι) (o := 11) (T := TX3) (N := 7) C wU_X3 hw rfl (by decide) rfl 3 (by decide) rfl wF_X3_32 (aG_P rfl rfl) dX3_readUnit_1 ?_
    refine lv_aload_n hx hb dX3_readUnit_4 rfl (lv_at hl 0 rfl) ?_
    refine a_geti (σ := aG ι) (o := 11) (T := TX3) (N := 7) C wU_X3 hw rfl (by decide) rfl 5 (by decide) rfl wF_X3_39 dX3_readUnit_5 ?_
    refine lv_bipush (v := (45 : Int32)) hx hb dX3_readUnit_8 (by decide) ?_
    obtain ⟨r10, hr10, hM⟩ := h_b hM
    refine a_callV (σ' := aG r10.2) (v := (some (.int r10.1))) (As := fun ad => [.int (gI ι 11 5), .int (45 : Int32)]) (rest := []) (o := 24) C hw (c_X4_isSign l hr10) k_X4_isSign wM_X3_155 ⟨⟨rfl, rfl⟩, ⟨by simp only [rm_X4_isSign, aRm]; omega, by simp only [rm_X4_isSign, aRm]; omega⟩⟩ rfl (by decide) rfl rfl rfl hl rfl (Nat.le_of_ble_eq_true rfl) dX3_readUnit_10 ⟨Nat.zero_le _, Nat.zero_le _⟩ (fun H locs hw => ?_)
    refine lv_istore_n (lv' := [(2, .int r10.1), (0, .ref (ad 11)), (1, .int x1)]) hx hb dX3_readUnit_13 rfl hl (by decide) rfl (fun ls hl => ?_)
    refine lv_iload_n hx hb dX3_readUnit_14 rfl (lv_at hl 0 rfl) ?_
    refine lv_if_ne (tgt := 39) hx hb dX3_readUnit_15 (by decide) (fun hc => ?_) (fun hc => ?_)
    · replace hM := h_f hc hM
      refine lv_iload_n hx hb dX3_readUnit_39 rfl (lv_at hl 2 rfl) ?_
      refine lv_iconst (v := (4 : Int32)) hx hb dX3_readUnit_40 (by decide) ?_
      refine lv_icmp_lt (tgt := 50) hx hb dX3_readUnit_41 (by decide) (fun hc => ?_) (fun hc => ?_)
      · replace hM := h_t hc hM
        refine lv_aload_n hx hb dX3_readUnit_50 rfl (lv_at hl 1 rfl) ?_
        refine lv_dup hx hb dX3_readUnit_51 rfl ?_
        refine a_geti (σ := aG r10.2) (o := 11) (T := TX3) (N := 7) C wU_X3 hw rfl (by decide) rfl 5 (by decide) rfl wF_X3_39 dX3_readUnit_52 ?_
        refine lv_iconst (v := (1 : Int32)) hx hb dX3_readUnit_55 (by decide) ?_
        refine lv_iadd hx hb dX3_readUnit_56 ?_
        refine a_puti (ty := .int) (σ := aG r10.2) (o := 11) (T := TX3) (N := 7) (ty0 := tyX3) C wU_X3 tyX3_ok nmX3 hw rfl (by decide) rfl 5 (by decide) rfl wF_X3_39 rfl (by decide +kernel) rfl rfl dX3_readUnit_57 (fun H locs hw => ?_)
        have hw : aW D dA ad adV (aG (pI r10.2 11 5 ((gI r10.2 11 5) + (1 : Int32)))) A s H locs := by rw [aG_PI] at hw; exact hw
        refine lv_iload_n hx hb dX3_readUnit_60 rfl (lv_at hl 0 rfl) ?_
        refine lv_if_ne (tgt := 89) hx hb dX3_readUnit_61 (by decide) (fun hc => ?_) (fun hc => ?_)
        · replace hM := h_f hc hM
          refine lv_aload_n hx hb dX3_readUnit_89 rfl (lv_at hl 1 rfl) ?_
          refine lv_iload_n hx hb dX3_readUnit_90 rfl (lv_at hl 2 rfl) ?_
          refine lv_iconst (v := (1 : Int32)) hx hb dX3_readUnit_91 (by decide) ?_
          refine lv_iadd hx hb dX3_readUnit_92 ?_
          obtain ⟨r93, hr93, hM⟩ := h_b hM
          refine a_callV (σ' := aG r93.2) (v := (some (.int r93.1))) (As := fun ad => [.int (x1 + (1 : Int32))]) (rest := []) (o := 11) C hw (ih hr93) k_X3_readUnit wM_X3_172 ⟨⟨rfl, rfl⟩, ⟨by simp only [aRm]; omega, by simp only [aRm]; omega⟩⟩ rfl (by decide) rfl rfl rfl hl rfl (Nat.le_of_ble_eq_true rfl) dX3_readUnit_93 ⟨Nat.zero_le _, Nat.zero_le _⟩ (fun H locs hw => ?_)
          refine lv_istore_n (lv' := [(3, .int r93.1), (2, .int r10.1), (0, .ref (ad 11)), (1, .int x1)]) hx hb dX3_readUnit_96 rfl hl (by decide) rfl (fun ls hl => ?_)
          refine lv_aload_n hx hb dX3_readUnit_97 rfl (lv_at hl 2 rfl) ?_
          refine a_getp (q := 21) (σ := aG r93.2) (o := 11) (T := TX3) (N := 7) C wU_X3 hw rfl (by decide) rfl 1 (by decide) rfl wF_X3_21 (aG_P rfl rfl) dX3_readUnit_98 ?_
          refine lv_iconst (v := (4 : Int32)) hx hb dX3_readUnit_101 (by decide) ?_
          refine lv_iconst (v := (0 : Int32)) hx hb dX3_readUnit_102 (by decide) ?_
          obtain ⟨r103, hr103, hM⟩ := h_b hM
          refine a_callV (σ' := aG r103) (v := none) (As := fun ad => [.int (4 : Int32), .int (0 : Int32)]) (rest := []) (o := 21) C hw (c_X1_add l hr103) k_X1_add wM_X3_168 ⟨⟨rfl, rfl⟩, ⟨by simp only [rm_X1_add, aRm]; omega, by simp only [rm_X1_add, aRm]; omega⟩⟩ rfl (by decide) rfl rfl rfl hl rfl (Nat.le_of_ble_eq_true rfl) dX3_readUnit_103 ⟨Nat.zero_le _, Nat.zero_le _⟩ (fun H locs hw => ?_)
          refine lv_iload_n hx hb dX3_readUnit_106 rfl (lv_at hl 0 rfl) ?_
          obtain ⟨hz, hM⟩ := h_g hM
          cases h_e hM
          exact a_zret C (zn hz) hw dX3_readUnit_107
        · replace hM := h_t hc hM
          refine lv_aload_n hx hb dX3_readUnit_64 rfl (lv_at hl 1 rfl) ?_
          refine lv_iload_n hx hb dX3_readUnit_65 rfl (lv_at hl 2 rfl) ?_
          refine lv_iconst (v := (1 : Int32)) hx hb dX3_readUnit_66 (by decide) ?_
          refine lv_iadd hx hb dX3_readUnit_67 ?_
          obtain ⟨r68, hr68, hM⟩ := h_b hM
          refine a_callV (σ' := aG r68.2) (v := (some (.int r68.1))) (As := fun ad => [.int (x1 + (1 : Int32))]) (rest := []) (o := 11) C hw (c_X3_readSum l (f := 40 + 3 * d) (w := 1000 + 70 * d) (by omega) (by omega) (fun h => ih h) hr68) k_X3_readSum wM_X3_114 ⟨⟨rfl, rfl⟩, ⟨by simp only [aRm]; omega, by simp only [aRm]; omega⟩⟩ rfl (by decide) rfl rfl rfl hl rfl (Nat.le_of_ble_eq_true rfl) dX3_readUnit_68 ⟨Nat.zero_le _, Nat.zero_le _⟩ (fun H locs hw => ?_)
          refine lv_if_eq (tgt := 87) hx hb dX3_readUnit_71 (by decide) (fun hc => ?_) (fun hc => ?_)
          · replace hM := h_t hc hM
            refine lv_iconst (v := (0 : Int32)) hx hb dX3_readUnit_87 (by decide) ?_
            cases h_e hM
            exact a_zret C (zn (v := 0) (Or.inl rfl)) hw dX3_readUnit_88
          · replace hM := h_f hc hM
            refine lv_aload_n hx hb dX3_readUnit_74 rfl (lv_at hl 1 rfl) ?_
            refine lv_bipush (v := (41 : Int32)) hx hb dX3_readUnit_75 (by decide) ?_
            obtain ⟨r77, hr77, hM⟩ := h_b hM
            refine a_callV (σ' := aG r77.2) (v := (some (.int r77.1))) (As := fun ad => [.int (41 : Int32)]) (rest := []) (o := 11) C hw (c_X3_readSign l hr77) k_X3_readSign wM_X3_64 ⟨⟨rfl, rfl⟩, ⟨by simp only [rm_X3_readSign, aRm]; omega, by simp only [rm_X3_readSign, aRm]; omega⟩⟩ rfl (by decide) rfl rfl rfl hl rfl (Nat.le_of_ble_eq_true rfl) dX3_readUnit_77 ⟨Nat.zero_le _, Nat.zero_le _⟩ (fun H locs hw => ?_)
            refine lv_if_eq (tgt := 87) hx hb dX3_readUnit_80 (by decide) (fun hc => ?_) (fun hc => ?_)
            · replace hM := h_t hc hM
              refine lv_iconst (v := (0 : Int32)) hx hb dX3_readUnit_87 (by decide) ?_
              cases h_e hM
              exact a_zret C (zn (v := 0) (Or.inl rfl)) hw dX3_readUnit_88
            · replace hM := h_f hc hM
              refine lv_iconst (v := (1 : Int32)) hx hb dX3_readUnit_83 (by decide) ?_
              refine lv_goto (tgt := 88) hx hb dX3_readUnit_84 (by decide) ?_
              cases h_e hM
              exact a_zret C (zn (v := 1) (Or.inr rfl)) hw dX3_readUnit_88
      · replace hM := h_f hc hM
        refine lv_aload_n hx hb dX3_readUnit_44 rfl (lv_at hl 1 rfl) ?_
        refine lv_iconst (v := (4 : Int32)) hx hb dX3_readUnit_45 (by decide) ?_
        obtain ⟨r46, hr46, hM⟩ := h_b hM
        refine a_callV (σ' := aG r46.2) (v := (some (.int r46.1))) (As := fun ad => [.int (4 : Int32)]) (rest := []) (o := 11) C hw (c_X3_fail l hr46) k_X3_fail wM_X3_68 ⟨⟨rfl, rfl⟩, ⟨by simp only [rm_X3_fail, aRm]; omega, by simp only [rm_X3_fail, aRm]; omega⟩⟩ rfl (by decide) rfl rfl rfl hl rfl (Nat.le_of_ble_eq_true rfl) dX3_readUnit_46 ⟨Nat.zero_le _, Nat.zero_le _⟩ (fun H locs hw => ?_)
        obtain ⟨hz, hM⟩ := h_g hM
        cases h_e hM
        exact a_zret C (zn hz) hw dX3_readUnit_49
    · replace hM := h_t hc hM
      refine lv_aload_n hx hb dX3_readUnit_18 rfl (lv_at hl 1 rfl) ?_
      refine a_getp (q := 24) (σ := aG r10.2) (o := 11) (T := TX3) (N := 7) C wU_X3 hw rfl (by decide) rfl 3 (by decide) rfl wF_X3_32 (aG_P rfl rfl) dX3_readUnit_19 ?_
      refine lv_aload_n hx hb dX3_readUnit_22 rfl (lv_at hl 1 rfl) ?_
      refine a_geti (σ := aG r10.2) (o := 11) (T := TX3) (N := 7) C wU_X3 hw rfl (by decide) rfl 5 (by decide) rfl wF_X3_39 dX3_readUnit_23 ?_
      refine lv_bipush (v := (40 : Int32)) hx hb dX3_readUnit_26 (by decide) ?_
      obtain ⟨r28, hr28, hM⟩ := h_b hM
      refine a_callV (σ' := aG r28.2) (v := (some (.int r28.1))) (As := fun ad => [.int (gI r10.2 11 5), .int (40 : Int32)]) (rest := []) (o := 24) C hw (c_X4_isSign l hr28) k_X4_isSign wM_X3_155 ⟨⟨rfl, rfl⟩, ⟨by simp only [rm_X4_isSign, aRm]; omega, by simp only [rm_X4_isSign, aRm]; omega⟩⟩ rfl (by decide) rfl rfl rfl hl rfl (Nat.le_of_ble_eq_true rfl) dX3_readUnit_28 ⟨Nat.zero_le _, Nat.zero_le _⟩ (fun H locs hw => ?_)
      refine lv_if_ne (tgt := 39) hx hb dX3_readUnit_31 (by decide) (fun hc => ?_) (fun hc => ?_)
      · replace hM := h_f hc hM
        refine lv_iload_n hx hb dX3_readUnit_39 rfl (lv_at hl 2 rfl) ?_
        refine lv_iconst (v := (4 : Int32)) hx hb dX3_readUnit_40 (by decide) ?_
        refine lv_icmp_lt (tgt := 50) hx hb dX3_readUnit_41 (by decide) (fun hc => ?_) (fun hc => ?_)
        · replace hM := h_t hc hM
          refine lv_aload_n hx hb dX3_readUnit_50 rfl (lv_at hl 1 rfl) ?_
          refine lv_dup hx hb dX3_readUnit_51 rfl ?_
          refine a_geti (σ := aG r28.2) (o := 11) (T := TX3) (N := 7) C wU_X3 hw rfl (by decide) rfl 5 (by decide) rfl wF_X3_39 dX3_readUnit_52 ?_
          refine lv_iconst (v := (1 : Int32)) hx hb dX3_readUnit_55 (by decide) ?_
          refine lv_iadd hx hb dX3_readUnit_56 ?_
          refine a_puti (ty := .int) (σ := aG r28.2) (o := 11) (T := TX3) (N := 7) (ty0 := tyX3) C wU_X3 tyX3_ok nmX3 hw rfl (by decide) rfl 5 (by decide) rfl wF_X3_39 rfl (by decide +kernel) rfl rfl dX3_readUnit_57 (fun H locs hw => ?_)
          have hw : aW D dA ad adV (aG (pI r28.2 11 5 ((gI r28.2 11 5) + (1 : Int32)))) A s H locs := by rw [aG_PI] at hw; exact hw
          refine lv_iload_n hx hb dX3_readUnit_60 rfl (lv_at hl 0 rfl) ?_
          refine lv_if_ne (tgt := 89) hx hb dX3_readUnit_61 (by decide) (fun hc => ?_) (fun hc => ?_)
          · replace hM := h_f hc hM
            refine lv_aload_n hx hb dX3_readUnit_89 rfl (lv_at hl 1 rfl) ?_
            refine lv_iload_n hx hb dX3_readUnit_90 rfl (lv_at hl 2 rfl) ?_
            refine lv_iconst (v := (1 : Int32)) hx hb dX3_readUnit_91 (by decide) ?_
            refine lv_iadd hx hb dX3_readUnit_92 ?_
            obtain ⟨r93, hr93, hM⟩ := h_b hM
            refine a_callV (σ' := aG r93.2) (v := (some (.int r93.1))) (As := fun ad => [.int (x1 + (1 : Int32))]) (rest := []) (o := 11) C hw (ih hr93) k_X3_readUnit wM_X3_172 ⟨⟨rfl, rfl⟩, ⟨by simp only [aRm]; omega, by simp only [aRm]; omega⟩⟩ rfl (by decide) rfl rfl rfl hl rfl (Nat.le_of_ble_eq_true rfl) dX3_readUnit_93 ⟨Nat.zero_le _, Nat.zero_le _⟩ (fun H locs hw => ?_)
            refine lv_istore_n (lv' := [(3, .int r93.1), (2, .int r10.1), (0, .ref (ad 11)), (1, .int x1)]) hx hb dX3_readUnit_96 rfl hl (by decide) rfl (fun ls hl => ?_)
            refine lv_aload_n hx hb dX3_readUnit_97 rfl (lv_at hl 2 rfl) ?_
            refine a_getp (q := 21) (σ := aG r93.2) (o := 11) (T := TX3) (N := 7) C wU_X3 hw rfl (by decide) rfl 1 (by decide) rfl wF_X3_21 (aG_P rfl rfl) dX3_readUnit_98 ?_
            refine lv_iconst (v := (4 : Int32)) hx hb dX3_readUnit_101 (by decide) ?_
            refine lv_iconst (v := (0 : Int32)) hx hb dX3_readUnit_102 (by decide) ?_
            obtain ⟨r103, hr103, hM⟩ := h_b hM
            refine a_callV (σ' := aG r103) (v := none) (As := fun ad => [.int (4 : Int32), .int (0 : Int32)]) (rest := []) (o := 21) C hw (c_X1_add l hr103) k_X1_add wM_X3_168 ⟨⟨rfl, rfl⟩, ⟨by simp only [rm_X1_add, aRm]; omega, by simp only [rm_X1_add, aRm]; omega⟩⟩ rfl (by decide) rfl rfl rfl hl rfl (Nat.le_of_ble_eq_true rfl) dX3_readUnit_103 ⟨Nat.zero_le _, Nat.zero_le _⟩ (fun H locs hw => ?_)
            refine lv_iload_n hx hb dX3_readUnit_106 rfl (lv_at hl 0 rfl) ?_
            obtain ⟨hz, hM⟩ := h_g hM
            cases h_e hM
            exact a_zret C (zn hz) hw dX3_readUnit_107
          · replace hM := h_t hc hM
            refine lv_aload_n hx hb dX3_readUnit_64 rfl (lv_at hl 1 rfl) ?_
            refine lv_iload_n hx hb dX3_readUnit_65 rfl (lv_at hl 2 rfl) ?_
            refine lv_iconst (v := (1 : Int32)) hx hb dX3_readUnit_66 (by decide) ?_
            refine lv_iadd hx hb dX3_readUnit_67 ?_
            obtain ⟨r68, hr68, hM⟩ := h_b hM
            refine a_callV (σ' := aG r68.2) (v := (some (.int r68.1))) (As := fun ad => [.int (x1 + (1 : Int32))]) (rest := []) (o := 11) C hw (c_X3_readSum l (f := 40 + 3 * d) (w := 1000 + 70 * d) (by omega) (by omega) (fun h => ih h) hr68) k_X3_readSum wM_X3_114 ⟨⟨rfl, rfl⟩, ⟨by simp only [aRm]; omega, by simp only [aRm]; omega⟩⟩ rfl (by decide) rfl rfl rfl hl rfl (Nat.le_of_ble_eq_true rfl) dX3_readUnit_68 ⟨Nat.zero_le _, Nat.zero_le _⟩ (fun H locs hw => ?_)
            refine lv_if_eq (tgt := 87) hx hb dX3_readUnit_71 (by decide) (fun hc => ?_) (fun hc => ?_)
            · replace hM := h_t hc hM
              refine lv_iconst (v := (0 : Int32)) hx hb dX3_readUnit_87 (by decide) ?_
              cases h_e hM
              exact a_zret C (zn (v := 0) (Or.inl rfl)) hw dX3_readUnit_88
            · replace hM := h_f hc hM
              refine lv_aload_n hx hb dX3_readUnit_74 rfl (lv_at hl 1 rfl) ?_
              refine lv_bipush (v := (41 : Int32)) hx hb dX3_readUnit_75 (by decide) ?_
              obtain ⟨r77, hr77, hM⟩ := h_b hM
              refine a_callV (σ' := aG r77.2) (v := (some (.int r77.1))) (As := fun ad => [.int (41 : Int32)]) (rest := []) (o := 11) C hw (c_X3_readSign l hr77) k_X3_readSign wM_X3_64 ⟨⟨rfl, rfl⟩, ⟨by simp only [rm_X3_readSign, aRm]; omega, by simp only [rm_X3_readSign, aRm]; omega⟩⟩ rfl (by decide) rfl rfl rfl hl rfl (Nat.le_of_ble_eq_true rfl) dX3_readUnit_77 ⟨Nat.zero_le _, Nat.zero_le _⟩ (fun H locs hw => ?_)
              refine lv_if_eq (tgt := 87) hx hb dX3_readUnit_80 (by decide) (fun hc => ?_) (fun hc => ?_)
              · replace hM := h_t hc hM
                refine lv_iconst (v := (0 : Int32)) hx hb dX3_readUnit_87 (by decide) ?_
                cases h_e hM
                exact a_zret C (zn (v := 0) (Or.inl rfl)) hw dX3_readUnit_88
              · replace hM := h_f hc hM
                refine lv_iconst (v := (1 : Int32)) hx hb dX3_readUnit_83 (by decide) ?_
                refine lv_goto (tgt := 88) hx hb dX3_readUnit_84 (by decide) ?_
                cases h_e hM
                exact a_zret C (zn (v := 1) (Or.inr rfl)) hw dX3_readUnit_88
        · replace hM := h_f hc hM
          refine lv_aload_n hx hb dX3_readUnit_44 rfl (lv_at hl 1 rfl) ?_
          refine lv_iconst (v := (4 : Int32)) hx hb dX3_readUnit_45 (by decide) ?_
          obtain ⟨r46, hr46, hM⟩ := h_b hM
          refine a_callV (σ' := aG r46.2) (v := (some (.int r46.1))) (As := fun ad => [.int (4 : Int32)]) (rest := []) (o := 11) C hw (c_X3_fail l hr46) k_X3_fail wM_X3_68 ⟨⟨rfl, rfl⟩, ⟨by simp only [rm_X3_fail, aRm]; omega, by simp only [rm_X3_fail, aRm]; omega⟩⟩ rfl (by decide) rfl rfl rfl hl rfl (Nat.le_of_ble_eq_true rfl) dX3_readUnit_46 ⟨Nat.zero_le _, Nat.zero_le _⟩ (fun H locs hw => ?_)
          obtain ⟨hz, hM⟩ := h_g hM
          cases h_e hM
          exact a_zret C (zn hz) hw dX3_readUnit_49
      · replace hM := h_t hc hM
        refine lv_aload_n hx hb dX3_readUnit_34 rfl (lv_at hl 1 rfl) ?_
        obtain ⟨r35, hr35, hM⟩ := h_b hM
        refine a_callV (σ' := aG r35.2) (v := (some (.int r35.1))) (As := fun ad => []) (rest := []) (o := 11) C hw (c_X3_readLeaf l hr35) k_X3_readLeaf wM_X3_175 ⟨⟨rfl, rfl⟩, ⟨by simp only [rm_X3_readLeaf, aRm]; omega, by simp only [rm_X3_readLeaf, aRm]; omega⟩⟩ rfl (by decide) rfl rfl rfl hl rfl (Nat.le_of_ble_eq_true rfl) dX3_readUnit_35 ⟨Nat.zero_le _, Nat.zero_le _⟩ (fun H locs hw => ?_)
        obtain ⟨hz, hM⟩ := h_g hM
        cases h_e hM
        exact a_zret C (zn hz) hw dX3_readUnit_38
