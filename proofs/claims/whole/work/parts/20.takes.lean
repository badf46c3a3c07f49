/-- a room without cells -/
def aRm (f w : Nat) : Room := { frames := f, cells := 0, slots := 0, locals := w }
def l_X7_takes_16 (x1 : Nat) : Nat → Int32 → iS → Option (Int32 × iS)
  | 0, _, _ => none
  | n + 1, y2, ι => if (sLen x1) ≤ y2 then if y2 < (sLen x1) then some ((0 : Int32), ι) else Option.bind (m_X7_byteAt ((gI ι 109 4) + y2) ι) fun r63 => Option.bind (m_X7_in r63.1 (97 : Int32) (122 : Int32) r63.2) fun r70 => if r70.1 = 0 then some ((1 : Int32), (pI r70.2 109 4 ((gI r70.2 109 4) + y2))) else some ((0 : Int32), r70.2) else Option.bind (m_X7_byteAt ((gI ι 109 4) + y2) ι) fun r31 => if aIn y2 (aLen.getD x1 0) = true then if r31.1 = (sCh x1 y2.toNatClampNeg) then l_X7_takes_16 x1 n (y2 + 1) r31.2 else if y2 < (sLen x1) then some ((0 : Int32), r31.2) else Option.bind (m_X7_byteAt ((gI r31.2 109 4) + y2) r31.2) fun r63 => Option.bind (m_X7_in r63.1 (97 : Int32) (122 : Int32) r63.2) fun r70 => if r70.1 = 0 then some ((1 : Int32), (pI r70.2 109 4 ((gI r70.2 109 4) + y2))) else some ((0 : Int32), r70.2) else none
def m_X7_takes (x1 : Nat) (ι : iS) : Option (Int32 × iS) := Option.bind (m_X7_fine ι) fun r1 => if r1.1 = 0 then some ((0 : Int32), r1.2) else Option.bind (m_X7_here r1.2) fun r10 => l_X7_takes_16 x1 aF (0 : Int32) r10.2
def m_X7_takesOnce (x1 : Nat) (x2 : Int32) (ι : iS) : Option (Int32 × iS) := if (((gI ι 109 15) >>> (x2 &&& 31)) &&& (1 : Int32)) = (1 : Int32) then some ((0 : Int32), ι) else Option.bind (m_X7_takes x1 ι) fun r14 => if r14.1 = 0 then some ((0 : Int32), r14.2) else some ((1 : Int32), (pI r14.2 109 15 ((gI r14.2 109 15) ||| ((1 : Int32) <<< (x2 &&& 31)))))
def l_X4_isWord_35 (x2 : Nat) : Nat → Int32 → Int32 → iS → Option (Int32 × iS)
  | 0, _, _, _ => none
  | n + 1, y1, y3, ι => if aIn y1 501 = true then if (gI ι 27 y1.toNatClampNeg) ≤ y3 then some ((1 : Int32), ι) else if gP ι 24 4 = some 1 then if aIn y1 501 = true then if aIn ((gI ι 26 y1.toNatClampNeg) + y3) 500 = true then if aIn y3 (aLen.getD x2 0) = true then if (gI ι 1 ((gI ι 26 y1.toNatClampNeg) + y3).toNatClampNeg) = (sCh x2 y3.toNatClampNeg) then l_X4_isWord_35 x2 n y1 (y3 + 1) ι else some ((0 : Int32), ι) else none else none else none else none else none
def m_X4_isWord (x1 : Int32) (x2 : Nat) (ι : iS) : Option (Int32 × iS) := if (gI ι 24 3) ≤ x1 then some ((0 : Int32), ι) else if aIn x1 501 = true then if (gI ι 25 x1.toNatClampNeg) = (1 : Int32) then if aIn x1 501 = true then if (gI ι 27 x1.toNatClampNeg) = (sLen x2) then l_X4_isWord_35 x2 aF x1 (0 : Int32) ι else some ((0 : Int32), ι) else none else some ((0 : Int32), ι) else none
theorem k_X7_takes : aCal RX7 yX7_takes cX7_takes 3 (some .boolean) 1 := ⟨wI_yX7_takes, wE_yX7_takes, wZ_X7, wC_yX7_takes, by decide +kernel⟩
theorem k_X7_takesOnce : aCal RX7 yX7_takesOnce cX7_takesOnce 3 (some .boolean) 2 := ⟨wI_yX7_takesOnce, wE_yX7_takesOnce, wZ_X7, wC_yX7_takesOnce, by decide +kernel⟩
theorem k_X4_isWord : aCal RX4 yX4_isWord cX4_isWord 4 (some .boolean) 2 := ⟨wI_yX4_isWord, wE_yX4_isWord, wZ_X4, wC_yX4_isWord, by decide +kernel⟩
def rm_X7_takes : Room := { frames := 4, cells := 0, slots := 0, locals := 85 }
set_option maxHeartbeats 4000000 in
set_option maxRecDepth 100000 in
theorem tl_X7_takes_16 (l : Launch) {p : Program} {e : Env} {s : State} {m : MethodId} {args : Array Value} {below : List Frame} {meth : Method} {c : Code} {D : va_G} {dA : Nat → ClassId} {ad adV : Nat → Nat} {A : Nat → Prop} (C : aX p m c cX7_takes 3 s args aTs RX7 meth (some .boolean)) {x1 : Nat} (hx1 : x1 < 12) {res : Int32 × iS} : ∀ (n : Nat) (y2 : Int32) {ι : iS}, l_X7_takes_16 x1 n y2 ι = some res → ∀ {H : Heap} {locs : List Loc} {ls : Array Slot}, aW D dA ad adV (aG ι) A s H locs → lv_has ls 3 [(0, .ref (ad 109)), (1, .ref (ad (1000000 + x1))), (2, .int y2)] → W p l e rm_X7_takes s m args below meth c H locs 0 0 (MQ below (aQ D dA ad (aG res.2) A (some (.int res.1))) args s 0 0 A) (F0 m 16 ls []) := by
  have hx := C.1.1
  have hb := C.1.2.1
  have hml := C.1.2.2.1
  have hown := C.1.2.2.2.1
  have hts := C.1.2.2.2.2
  intro n
  induction n with
  | zero => intro y2 ι hM; simp [l_X7_takes_16] at hM
  | succ n ih =>
    intro y2 ι hM H locs ls hw hl
    rw [l_X7_takes_16] at hM
    refine lv_iload_n hx hb dX7_takes_16 rfl (lv_at hl 2 rfl) ?_
    refine lv_aload_n hx hb dX7_takes_17 rfl (lv_at hl 1 rfl) ?_
    refine s_callV (k := x1) (σ' := aG ι) (v := (some (.int (sLen x1)))) (As := fun _ => []) (rest := [.int y2]) C hw (c_J0_length l hx1) hx1 k_J0_length wM_X7_72 ⟨⟨rfl, rfl⟩, ⟨Nat.le_of_ble_eq_true rfl, Nat.le_of_ble_eq_true rfl⟩⟩ rfl rfl hl rfl (Nat.le_of_ble_eq_true rfl) dX7_takes_18 ⟨Nat.zero_le _, Nat.zero_le _⟩ (fun H locs hw => ?_)
    refine lv_icmp_ge (tgt := 48) hx hb dX7_takes_21 (by decide) (fun hc => ?_) (fun hc => ?_)
    · replace hM := h_t hc hM
      refine lv_iload_n hx hb dX7_takes_48 rfl (lv_at hl 2 rfl) ?_
      refine lv_aload_n hx hb dX7_takes_49 rfl (lv_at hl 1 rfl) ?_
      refine s_callV (k := x1) (σ' := aG ι) (v := (some (.int (sLen x1)))) (As := fun _ => []) (rest := [.int y2]) C hw (c_J0_length l hx1) hx1 k_J0_length wM_X7_72 ⟨⟨rfl, rfl⟩, ⟨Nat.le_of_ble_eq_true rfl, Nat.le_of_ble_eq_true rfl⟩⟩ rfl rfl hl rfl (Nat.le_of_ble_eq_true rfl) dX7_takes_50 ⟨Nat.zero_le _, Nat.zero_le _⟩ (fun H locs hw => ?_)
      refine lv_icmp_lt (tgt := 76) hx hb dX7_takes_53 (by decide) (fun hc => ?_) (fun hc => ?_)
      · replace hM := h_t hc hM
        refine lv_iconst (v := (0 : Int32)) hx hb dX7_takes_76 (by decide) ?_
        cases h_e hM
        exact a_zret C (zn (v := 0) (Or.inl rfl)) hw dX7_takes_77
      · replace hM := h_f hc hM
        refine lv_aload_n hx hb dX7_takes_56 rfl (lv_at hl 0 rfl) ?_
        refine lv_aload_n hx hb dX7_takes_57 rfl (lv_at hl 0 rfl) ?_
        refine a_geti (σ := aG ι) (o := 109) (T := TX7) (N := 20) C wU_X7 hw rfl (by decide) rfl 4 (by decide) rfl wF_X7_51 dX7_takes_58 ?_
        refine lv_iload_n hx hb dX7_takes_61 rfl (lv_at hl 2 rfl) ?_
        refine lv_iadd hx hb dX7_takes_62 ?_
        obtain ⟨r63, hr63, hM⟩ := h_b hM
        refine a_callV (σ' := aG r63.2) (v := (some (.int r63.1))) (As := fun ad => [.int ((gI ι 109 4) + y2)]) (rest := []) (o := 109) C hw (c_X7_byteAt l hr63) k_X7_byteAt wM_X7_54 ⟨⟨rfl, rfl⟩, ⟨Nat.le_of_ble_eq_true rfl, Nat.le_of_ble_eq_true rfl⟩⟩ rfl (by decide) rfl rfl rfl hl rfl (Nat.le_of_ble_eq_true rfl) dX7_takes_63 ⟨Nat.zero_le _, Nat.zero_le _⟩ (fun H locs hw => ?_)
        refine lv_bipush (v := (97 : Int32)) hx hb dX7_takes_66 (by decide) ?_
        refine lv_bipush (v := (122 : Int32)) hx hb dX7_takes_68 (by decide) ?_
        obtain ⟨r70, hr70, hM⟩ := h_b hM
        refine a_callS  (σ' := aG r70.2) (v := (some (.int r70.1))) (as := fun ad => [.int r63.1, .int (97 : Int32), .int (122 : Int32)]) (rest := []) C hw (c_X7_in l hr70) k_X7_in wM_X7_81 ⟨⟨rfl, rfl⟩, ⟨Nat.le_of_ble_eq_true rfl, Nat.le_of_ble_eq_true rfl⟩⟩ rfl hl rfl (Nat.le_of_ble_eq_true rfl) dX7_takes_70 ⟨Nat.zero_le _, Nat.zero_le _⟩ (fun H locs hw => ?_)
        refine lv_if_eq (tgt := 78) hx hb dX7_takes_73 (by decide) (fun hc => ?_) (fun hc => ?_)
        · replace hM := h_t hc hM
          refine lv_aload_n hx hb dX7_takes_78 rfl (lv_at hl 0 rfl) ?_
          refine lv_dup hx hb dX7_takes_79 rfl ?_
          refine a_geti (σ := aG r70.2) (o := 109) (T := TX7) (N := 20) C wU_X7 hw rfl (by decide) rfl 4 (by decide) rfl wF_X7_51 dX7_takes_80 ?_
          refine lv_iload_n hx hb dX7_takes_83 rfl (lv_at hl 2 rfl) ?_
          refine lv_iadd hx hb dX7_takes_84 ?_
          refine a_puti (ty := .int) (σ := aG r70.2) (o := 109) (T := TX7) (N := 20) (ty0 := tyX7) C wU_X7 tyX7_ok nmX7 hw rfl (by decide) rfl 4 (by decide) rfl wF_X7_51 rfl (by decide +kernel) rfl rfl dX7_takes_85 (fun H locs hw => ?_)
          have hw : aW D dA ad adV (aG (pI r70.2 109 4 ((gI r70.2 109 4) + y2))) A s H locs := hw
          refine lv_iconst (v := (1 : Int32)) hx hb dX7_takes_88 (by decide) ?_
          cases h_e hM
          exact a_zret C (zn (v := 1) (Or.inr rfl)) hw dX7_takes_89
        · replace hM := h_f hc hM
          refine lv_iconst (v := (0 : Int32)) hx hb dX7_takes_76 (by decide) ?_
          cases h_e hM
          exact a_zret C (zn (v := 0) (Or.inl rfl)) hw dX7_takes_77
    · replace hM := h_f hc hM
      refine lv_aload_n hx hb dX7_takes_24 rfl (lv_at hl 0 rfl) ?_
      refine lv_aload_n hx hb dX7_takes_25 rfl (lv_at hl 0 rfl) ?_
      refine a_geti (σ := aG ι) (o := 109) (T := TX7) (N := 20) C wU_X7 hw rfl (by decide) rfl 4 (by decide) rfl wF_X7_51 dX7_takes_26 ?_
      refine lv_iload_n hx hb dX7_takes_29 rfl (lv_at hl 2 rfl) ?_
      refine lv_iadd hx hb dX7_takes_30 ?_
      obtain ⟨r31, hr31, hM⟩ := h_b hM
      refine a_callV (σ' := aG r31.2) (v := (some (.int r31.1))) (As := fun ad => [.int ((gI ι 109 4) + y2)]) (rest := []) (o := 109) C hw (c_X7_byteAt l hr31) k_X7_byteAt wM_X7_54 ⟨⟨rfl, rfl⟩, ⟨Nat.le_of_ble_eq_true rfl, Nat.le_of_ble_eq_true rfl⟩⟩ rfl (by decide) rfl rfl rfl hl rfl (Nat.le_of_ble_eq_true rfl) dX7_takes_31 ⟨Nat.zero_le _, Nat.zero_le _⟩ (fun H locs hw => ?_)
      refine lv_aload_n hx hb dX7_takes_34 rfl (lv_at hl 1 rfl) ?_
      refine lv_iload_n hx hb dX7_takes_35 rfl (lv_at hl 2 rfl) ?_
      obtain ⟨hi, hM⟩ := h_i hM
      refine s_callV (k := x1) (σ' := aG r31.2) (v := (some (.int (sCh x1 y2.toNatClampNeg)))) (As := fun _ => [.int y2]) (rest := [.int r31.1]) C hw (c_J0_charAt l hx1 hi) hx1 k_J0_charAt wM_X7_77 ⟨⟨rfl, rfl⟩, ⟨Nat.le_of_ble_eq_true rfl, Nat.le_of_ble_eq_true rfl⟩⟩ rfl rfl hl rfl (Nat.le_of_ble_eq_true rfl) dX7_takes_36 ⟨Nat.zero_le _, Nat.zero_le _⟩ (fun H locs hw => ?_)
      refine lv_icmp_ne (tgt := 48) hx hb dX7_takes_39 (by decide) (fun hc => ?_) (fun hc => ?_)
      · replace hM := h_f hc hM
        refine lv_iload_n hx hb dX7_takes_48 rfl (lv_at hl 2 rfl) ?_
        refine lv_aload_n hx hb dX7_takes_49 rfl (lv_at hl 1 rfl) ?_
        refine s_callV (k := x1) (σ' := aG r31.2) (v := (some (.int (sLen x1)))) (As := fun _ => []) (rest := [.int y2]) C hw (c_J0_length l hx1) hx1 k_J0_length wM_X7_72 ⟨⟨rfl, rfl⟩, ⟨Nat.le_of_ble_eq_true rfl, Nat.le_of_ble_eq_true rfl⟩⟩ rfl rfl hl rfl (Nat.le_of_ble_eq_true rfl) dX7_takes_50 ⟨Nat.zero_le _, Nat.zero_le _⟩ (fun H locs hw => ?_)
        refine lv_icmp_lt (tgt := 76) hx hb dX7_takes_53 (by decide) (fun hc => ?_) (fun hc => ?_)
        · replace hM := h_t hc hM
          refine lv_iconst (v := (0 : Int32)) hx hb dX7_takes_76 (by decide) ?_
          cases h_e hM
          exact a_zret C (zn (v := 0) (Or.inl rfl)) hw dX7_takes_77
        · replace hM := h_f hc hM
          refine lv_aload_n hx hb dX7_takes_56 rfl (lv_at hl 0 rfl) ?_
          refine lv_aload_n hx hb dX7_takes_57 rfl (lv_at hl 0 rfl) ?_
          refine a_geti (σ := aG r31.2) (o := 109) (T := TX7) (N := 20) C wU_X7 hw rfl (by decide) rfl 4 (by decide) rfl wF_X7_51 dX7_takes_58 ?_
          refine lv_iload_n hx hb dX7_takes_61 rfl (lv_at hl 2 rfl) ?_
          refine lv_iadd hx hb dX7_takes_62 ?_
          obtain ⟨r63, hr63, hM⟩ := h_b hM
          refine a_callV (σ' := aG r63.2) (v := (some (.int r63.1))) (As := fun ad => [.int ((gI r31.2 109 4) + y2)]) (rest := []) (o := 109) C hw (c_X7_byteAt l hr63) k_X7_byteAt wM_X7_54 ⟨⟨rfl, rfl⟩, ⟨Nat.le_of_ble_eq_true rfl, Nat.le_of_ble_eq_true rfl⟩⟩ rfl (by decide) rfl rfl rfl hl rfl (Nat.le_of_ble_eq_true rfl) dX7_takes_63 ⟨Nat.zero_le _, Nat.zero_le _⟩ (fun H locs hw => ?_)
          refine lv_bipush (v := (97 : Int32)) hx hb dX7_takes_66 (by decide) ?_
          refine lv_bipush (v := (122 : Int32)) hx hb dX7_takes_68 (by decide) ?_
          obtain ⟨r70, hr70, hM⟩ := h_b hM
          refine a_callS  (σ' := aG r70.2) (v := (some (.int r70.1))) (as := fun ad => [.int r63.1, .int (97 : Int32), .int (122 : Int32)]) (rest := []) C hw (c_X7_in l hr70) k_X7_in wM_X7_81 ⟨⟨rfl, rfl⟩, ⟨Nat.le_of_ble_eq_true rfl, Nat.le_of_ble_eq_true rfl⟩⟩ rfl hl rfl (Nat.le_of_ble_eq_true rfl) dX7_takes_70 ⟨Nat.zero_le _, Nat.zero_le _⟩ (fun H locs hw => ?_)
          refine lv_if_eq (tgt := 78) hx hb dX7_takes_73 (by decide) (fun hc => ?_) (fun hc => ?_)
          · replace hM := h_t hc hM
            refine lv_aload_n hx hb dX7_takes_78 rfl (lv_at hl 0 rfl) ?_
            refine lv_dup hx hb dX7_takes_79 rfl ?_
            refine a_geti (σ := aG r70.2) (o := 109) (T := TX7) (N := 20) C wU_X7 hw rfl (by decide) rfl 4 (by decide) rfl wF_X7_51 dX7_takes_80 ?_
            refine lv_iload_n hx hb dX7_takes_83 rfl (lv_at hl 2 rfl) ?_
            refine lv_iadd hx hb dX7_takes_84 ?_
            refine a_puti (ty := .int) (σ := aG r70.2) (o := 109) (T := TX7) (N := 20) (ty0 := tyX7) C wU_X7 tyX7_ok nmX7 hw rfl (by decide) rfl 4 (by decide) rfl wF_X7_51 rfl (by decide +kernel) rfl rfl dX7_takes_85 (fun H locs hw => ?_)
            have hw : aW D dA ad adV (aG (pI r70.2 109 4 ((gI r70.2 109 4) + y2))) A s H locs := hw
            refine lv_iconst (v := (1 : Int32)) hx hb dX7_takes_88 (by decide) ?_
            cases h_e hM
            exact a_zret C (zn (v := 1) (Or.inr rfl)) hw dX7_takes_89
          · replace hM := h_f hc hM
            refine lv_iconst (v := (0 : Int32)) hx hb dX7_takes_76 (by decide) ?_
            cases h_e hM
            exact a_zret C (zn (v := 0) (Or.inl rfl)) hw dX7_takes_77
      · replace hM := h_t hc hM
        refine lv_iinc (v := (y2 + 1)) (lv' := [(2, .int (y2 + 1)), (0, .ref (ad 109)), (1, .ref (ad (1000000 + x1)))]) hx hb dX7_takes_42 hl (k := 2) rfl rfl (by decide) rfl (fun ls hl => ?_)
        refine lv_goto (tgt := 16) hx hb dX7_takes_45 (by decide) ?_
        exact ih ((y2 + 1)) hM hw (lv_sub hl [1, 2, 0] rfl)
set_option maxHeartbeats 4000000 in
set_option maxRecDepth 100000 in
theorem c_X7_takes (l : Launch) {x1 : Nat} (hx1 : x1 < 12) {ι : iS} {res : Int32 × iS} (hM : m_X7_takes x1 ι = some res) : aM l yX7_takes cX7_takes 3 (some .boolean) rm_X7_takes (fun ad => [.ref (ad 109), .ref (ad (1000000 + x1))]) (aG ι) (some (.int res.1)) (aG res.2) := by
  refine aM.of (by decide) (fun _ => Nat.le_of_ble_eq_true rfl) ?_
  intro p e s m args below meth c D dA ad adV A ls C hw hl
  have C : aX p m c cX7_takes 3 s args aTs RX7 meth (some .boolean) := C
  have hx := C.1.1
  have hb := C.1.2.1
  have hml := C.1.2.2.1
  have hown := C.1.2.2.2.1
  have hts := C.1.2.2.2.2
  have hl : lv_has ls 3 [(0, .ref (ad 109)), (1, .ref (ad (1000000 + x1)))] := hl
  unfold m_X7_takes at hM
  refine lv_aload_n hx hb dX7_takes_0 rfl (lv_at hl 0 rfl) ?_
  obtain ⟨r1, hr1, hM⟩ := h_b hM
  refine a_callV (σ' := aG r1.2) (v := (some (.int r1.1))) (As := fun ad => []) (rest := []) (o := 109) C hw (c_X7_fine l hr1) k_X7_fine wM_X7_64 ⟨⟨rfl, rfl⟩, ⟨Nat.le_of_ble_eq_true rfl, Nat.le_of_ble_eq_true rfl⟩⟩ rfl (by decide) rfl rfl rfl hl rfl (Nat.le_of_ble_eq_true rfl) dX7_takes_1 ⟨Nat.zero_le _, Nat.zero_le _⟩ (fun H locs hw => ?_)
  refine lv_if_ne (tgt := 9) hx hb dX7_takes_4 (by decide) (fun hc => ?_) (fun hc => ?_)
  · replace hM := h_f hc hM
    refine lv_aload_n hx hb dX7_takes_9 rfl (lv_at hl 0 rfl) ?_
    obtain ⟨r10, hr10, hM⟩ := h_b hM
    refine a_callV (σ' := aG r10.2) (v := (some (.int r10.1))) (As := fun ad => []) (rest := []) (o := 109) C hw (c_X7_here l hr10) k_X7_here wM_X7_68 ⟨⟨rfl, rfl⟩, ⟨Nat.le_of_ble_eq_true rfl, Nat.le_of_ble_eq_true rfl⟩⟩ rfl (by decide) rfl rfl rfl hl rfl (Nat.le_of_ble_eq_true rfl) dX7_takes_10 ⟨Nat.zero_le _, Nat.zero_le _⟩ (fun H locs hw => ?_)
    refine lv_pop hx hb dX7_takes_13 rfl ?_
    refine lv_iconst (v := (0 : Int32)) hx hb dX7_takes_14 (by decide) ?_
    refine lv_istore_n (lv' := [(2, .int (0 : Int32)), (0, .ref (ad 109)), (1, .ref (ad (1000000 + x1)))]) hx hb dX7_takes_15 rfl hl (by decide) rfl (fun ls hl => ?_)
    exact tl_X7_takes_16 l C hx1 aF ((0 : Int32)) hM hw (lv_sub hl [1, 2, 0] rfl)
  · replace hM := h_t hc hM
    refine lv_iconst (v := (0 : Int32)) hx hb dX7_takes_7 (by decide) ?_
    cases h_e hM
    exact a_zret C (zn (v := 0) (Or.inl rfl)) hw dX7_takes_8
def rm_X7_takesOnce : Room := { frames := 5, cells := 0, slots := 0, locals := 107 }
set_option maxHeartbeats 4000000 in
set_option maxRecDepth 100000 in
theorem c_X7_takesOnce (l : Launch) {x1 : Nat} {x2 : Int32} (hx1 : x1 < 12) {ι : iS} {res : Int32 × iS} (hM : m_X7_takesOnce x1 x2 ι = some res) : aM l yX7_takesOnce cX7_takesOnce 3 (some .boolean) rm_X7_takesOnce (fun ad => [.ref (ad 109), .ref (ad (1000000 + x1)), .int x2]) (aG ι) (some (.int res.1)) (aG res.2) := by
  refine aM.of (by decide) (fun _ => Nat.le_of_ble_eq_true rfl) ?_
  intro p e s m args below meth c D dA ad adV A ls C hw hl
  have C : aX p m c cX7_takesOnce 3 s args aTs RX7 meth (some .boolean) := C
  have hx := C.1.1
  have hb := C.1.2.1
  have hml := C.1.2.2.1
  have hown := C.1.2.2.2.1
  have hts := C.1.2.2.2.2
  have hl : lv_has ls 3 [(0, .ref (ad 109)), (1, .ref (ad (1000000 + x1))), (2, .int x2)] := hl
  unfold m_X7_takesOnce at hM
  refine lv_aload_n hx hb dX7_takesOnce_0 rfl (lv_at hl 0 rfl) ?_
  refine a_geti (σ := aG ι) (o := 109) (T := TX7) (N := 20) C wU_X7 hw rfl (by decide) rfl 15 (by decide) rfl wF_X7_139 dX7_takesOnce_1 ?_
  refine lv_iload_n hx hb dX7_takesOnce_4 rfl (lv_at hl 2 rfl) ?_
  refine lv_ishr hx hb dX7_takesOnce_5 ?_
  refine lv_iconst (v := (1 : Int32)) hx hb dX7_takesOnce_6 (by decide) ?_
  refine lv_iand hx hb dX7_takesOnce_7 ?_
  refine lv_iconst (v := (1 : Int32)) hx hb dX7_takesOnce_8 (by decide) ?_
  refine lv_icmp_eq (tgt := 20) hx hb dX7_takesOnce_9 (by decide) (fun hc => ?_) (fun hc => ?_)
  · replace hM := h_t hc hM
    refine lv_iconst (v := (0 : Int32)) hx hb dX7_takesOnce_20 (by decide) ?_
    cases h_e hM
    exact a_zret C (zn (v := 0) (Or.inl rfl)) hw dX7_takesOnce_21
  · replace hM := h_f hc hM
    refine lv_aload_n hx hb dX7_takesOnce_12 rfl (lv_at hl 0 rfl) ?_
    refine lv_aload_n hx hb dX7_takesOnce_13 rfl (lv_at hl 1 rfl) ?_
    obtain ⟨r14, hr14, hM⟩ := h_b hM
    refine a_callV (σ' := aG r14.2) (v := (some (.int r14.1))) (As := fun ad => [.ref (ad (1000000 + x1))]) (rest := []) (o := 109) C hw (c_X7_takes l (hx1) hr14) k_X7_takes wM_X7_125 ⟨⟨rfl, rfl⟩, ⟨Nat.le_of_ble_eq_true rfl, Nat.le_of_ble_eq_true rfl⟩⟩ rfl (by decide) rfl rfl rfl hl rfl (Nat.le_of_ble_eq_true rfl) dX7_takesOnce_14 ⟨Nat.zero_le _, Nat.zero_le _⟩ (fun H locs hw => ?_)
    refine lv_if_ne (tgt := 22) hx hb dX7_takesOnce_17 (by decide) (fun hc => ?_) (fun hc => ?_)
    · replace hM := h_f hc hM
      refine lv_aload_n hx hb dX7_takesOnce_22 rfl (lv_at hl 0 rfl) ?_
      refine lv_dup hx hb dX7_takesOnce_23 rfl ?_
      refine a_geti (σ := aG r14.2) (o := 109) (T := TX7) (N := 20) C wU_X7 hw rfl (by decide) rfl 15 (by decide) rfl wF_X7_139 dX7_takesOnce_24 ?_
      refine lv_iconst (v := (1 : Int32)) hx hb dX7_takesOnce_27 (by decide) ?_
      refine lv_iload_n hx hb dX7_takesOnce_28 rfl (lv_at hl 2 rfl) ?_
      refine lv_ishl hx hb dX7_takesOnce_29 ?_
      refine lv_ior hx hb dX7_takesOnce_30 ?_
      refine a_puti (ty := .int) (σ := aG r14.2) (o := 109) (T := TX7) (N := 20) (ty0 := tyX7) C wU_X7 tyX7_ok nmX7 hw rfl (by decide) rfl 15 (by decide) rfl wF_X7_139 rfl (by decide +kernel) rfl rfl dX7_takesOnce_31 (fun H locs hw => ?_)
      have hw : aW D dA ad adV (aG (pI r14.2 109 15 ((gI r14.2 109 15) ||| ((1 : Int32) <<< (x2 &&& 31))))) A s H locs := hw
      refine lv_iconst (v := (1 : Int32)) hx hb dX7_takesOnce_34 (by decide) ?_
      cases h_e hM
      exact a_zret C (zn (v := 1) (Or.inr rfl)) hw dX7_takesOnce_35
    · replace hM := h_t hc hM
      refine lv_iconst (v := (0 : Int32)) hx hb dX7_takesOnce_20 (by decide) ?_
      cases h_e hM
      exact a_zret C (zn (v := 0) (Or.inl rfl)) hw dX7_takesOnce_21
def rm_X4_isWord : Room := { frames := 4, cells := 0, slots := 0, locals := 85 }
set_option maxHeartbeats 4000000 in
set_option maxRecDepth 100000 in
theorem tl_X4_isWord_35 (l : Launch) {p : Program} {e : Env} {s : State} {m : MethodId} {args : Array Value} {below : List Frame} {meth : Method} {c : Code} {D : va_G} {dA : Nat → ClassId} {ad adV : Nat → Nat} {A : Nat → Prop} (C : aX p m c cX4_isWord 4 s args aTs RX4 meth (some .boolean)) {x2 : Nat} (hx2 : x2 < 12) {res : Int32 × iS} : ∀ (n : Nat) (y1 : Int32) (y3 : Int32) {ι : iS}, l_X4_isWord_35 x2 n y1 y3 ι = some res → ∀ {H : Heap} {locs : List Loc} {ls : Array Slot}, aW D dA ad adV (aG ι) A s H locs → lv_has ls 4 [(0, .ref (ad 24)), (1, .int y1), (2, .ref (ad (1000000 + x2))), (3, .int y3)] → W p l e rm_X4_isWord s m args below meth c H locs 0 0 (MQ below (aQ D dA ad (aG res.2) A (some (.int res.1))) args s 0 0 A) (F0 m 35 ls []) := by
  have hx := C.1.1
  have hb := C.1.2.1
  have hml := C.1.2.2.1
  have hown := C.1.2.2.2.1
  have hts := C.1.2.2.2.2
  intro n
  induction n with
  | zero => intro y1 y3 ι hM; simp [l_X4_isWord_35] at hM
  | succ n ih =>
    intro y1 y3 ι hM H locs ls hw hl
    rw [l_X4_isWord_35] at hM
    refine lv_iload_n hx hb dX4_isWord_35 rfl (lv_at hl 3 rfl) ?_
    refine lv_aload_n hx hb dX4_isWord_36 rfl (lv_at hl 0 rfl) ?_
    refine a_getp (q := 27) (σ := aG ι) (o := 24) (T := TX4) (N := 6) C wU_X4 hw rfl (by decide) rfl 2 (by decide) rfl wF_X4_18 (aG_P rfl rfl) dX4_isWord_37 ?_
    refine lv_iload_n hx hb dX4_isWord_40 rfl (lv_at hl 1 rfl) ?_
    obtain ⟨hi, hM⟩ := h_i hM
    refine a_iald (σ := aG ι) (o := 27) C hw rfl hi rfl dX4_isWord_41 ?_
    refine lv_icmp_ge (tgt := 74) hx hb dX4_isWord_42 (by decide) (fun hc => ?_) (fun hc => ?_)
    · replace hM := h_t hc hM
      refine lv_iconst (v := (1 : Int32)) hx hb dX4_isWord_74 (by decide) ?_
      cases h_e hM
      exact a_zret C (zn (v := 1) (Or.inr rfl)) hw dX4_isWord_75
    · replace hM := h_f hc hM
      refine lv_aload_n hx hb dX4_isWord_45 rfl (lv_at hl 0 rfl) ?_
      obtain ⟨hq, hM⟩ := h_g hM
      refine a_getp (q := 1) (σ := aG ι) (o := 24) (T := TX4) (N := 6) C wU_X4 hw rfl (by decide) rfl 4 (by decide) rfl wF_X4_25 (aG_Pm rfl hq) dX4_isWord_46 ?_
      refine lv_aload_n hx hb dX4_isWord_49 rfl (lv_at hl 0 rfl) ?_
      refine a_getp (q := 26) (σ := aG ι) (o := 24) (T := TX4) (N := 6) C wU_X4 hw rfl (by decide) rfl 1 (by decide) rfl wF_X4_15 (aG_P rfl rfl) dX4_isWord_50 ?_
      refine lv_iload_n hx hb dX4_isWord_53 rfl (lv_at hl 1 rfl) ?_
      obtain ⟨hi, hM⟩ := h_i hM
      refine a_iald (σ := aG ι) (o := 26) C hw rfl hi rfl dX4_isWord_54 ?_
      refine lv_iload_n hx hb dX4_isWord_55 rfl (lv_at hl 3 rfl) ?_
      refine lv_iadd hx hb dX4_isWord_56 ?_
      obtain ⟨hi, hM⟩ := h_i hM
      refine a_bald (σ := aG ι) (o := 1) C hw rfl hi rfl dX4_isWord_57 ?_
      refine lv_aload_n hx hb dX4_isWord_58 rfl (lv_at hl 2 rfl) ?_
      refine lv_iload_n hx hb dX4_isWord_59 rfl (lv_at hl 3 rfl) ?_
      obtain ⟨hi, hM⟩ := h_i hM
      refine s_callV (k := x2) (σ' := aG ι) (v := (some (.int (sCh x2 y3.toNatClampNeg)))) (As := fun _ => [.int y3]) (rest := [.int (gI ι 1 ((gI ι 26 y1.toNatClampNeg) + y3).toNatClampNeg)]) C hw (c_J0_charAt l hx2 hi) hx2 k_J0_charAt wM_X4_62 ⟨⟨rfl, rfl⟩, ⟨Nat.le_of_ble_eq_true rfl, Nat.le_of_ble_eq_true rfl⟩⟩ rfl rfl hl rfl (Nat.le_of_ble_eq_true rfl) dX4_isWord_60 ⟨Nat.zero_le _, Nat.zero_le _⟩ (fun H locs hw => ?_)
      refine lv_icmp_eq (tgt := 68) hx hb dX4_isWord_63 (by decide) (fun hc => ?_) (fun hc => ?_)
      · replace hM := h_t hc hM
        refine lv_iinc (v := (y3 + 1)) (lv' := [(3, .int (y3 + 1)), (0, .ref (ad 24)), (1, .int y1), (2, .ref (ad (1000000 + x2)))]) hx hb dX4_isWord_68 hl (k := 3) rfl rfl (by decide) rfl (fun ls hl => ?_)
        refine lv_goto (tgt := 35) hx hb dX4_isWord_71 (by decide) ?_
        exact ih (y1) ((y3 + 1)) hM hw (lv_sub hl [1, 2, 3, 0] rfl)
      · replace hM := h_f hc hM
        refine lv_iconst (v := (0 : Int32)) hx hb dX4_isWord_66 (by decide) ?_
        cases h_e hM
        exact a_zret C (zn (v := 0) (Or.inl rfl)) hw dX4_isWord_67
set_option maxHeartbeats 4000000 in
set_option maxRecDepth 100000 in
theorem c_X4_isWord (l : Launch) {x1 : Int32} {x2 : Nat} (hx2 : x2 < 12) {ι : iS} {res : Int32 × iS} (hM : m_X4_isWord x1 x2 ι = some res) : aM l yX4_isWord cX4_isWord 4 (some .boolean) rm_X4_isWord (fun ad => [.ref (ad 24), .int x1, .ref (ad (1000000 + x2))]) (aG ι) (some (.int res.1)) (aG res.2) := by
  refine aM.of (by decide) (fun _ => Nat.le_of_ble_eq_true rfl) ?_
  intro p e s m args below meth c D dA ad adV A ls C hw hl
  have C : aX p m c cX4_isWord 4 s args aTs RX4 meth (some .boolean) := C
  have hx := C.1.1
  have hb := C.1.2.1
  have hml := C.1.2.2.1
  have hown := C.1.2.2.2.1
  have hts := C.1.2.2.2.2
  have hl : lv_has ls 4 [(0, .ref (ad 24)), (1, .int x1), (2, .ref (ad (1000000 + x2)))] := hl
  unfold m_X4_isWord at hM
  refine lv_iload_n hx hb dX4_isWord_0 rfl (lv_at hl 1 rfl) ?_
  refine lv_aload_n hx hb dX4_isWord_1 rfl (lv_at hl 0 rfl) ?_
  refine a_geti (σ := aG ι) (o := 24) (T := TX4) (N := 6) C wU_X4 hw rfl (by decide) rfl 3 (by decide) rfl wF_X4_21 dX4_isWord_2 ?_
  refine lv_icmp_ge (tgt := 31) hx hb dX4_isWord_5 (by decide) (fun hc => ?_) (fun hc => ?_)
  · replace hM := h_t hc hM
    refine lv_iconst (v := (0 : Int32)) hx hb dX4_isWord_31 (by decide) ?_
    cases h_e hM
    exact a_zret C (zn (v := 0) (Or.inl rfl)) hw dX4_isWord_32
  · replace hM := h_f hc hM
    refine lv_aload_n hx hb dX4_isWord_8 rfl (lv_at hl 0 rfl) ?_
    refine a_getp (q := 25) (σ := aG ι) (o := 24) (T := TX4) (N := 6) C wU_X4 hw rfl (by decide) rfl 0 (by decide) rfl wF_X4_9 (aG_P rfl rfl) dX4_isWord_9 ?_
    refine lv_iload_n hx hb dX4_isWord_12 rfl (lv_at hl 1 rfl) ?_
    obtain ⟨hi, hM⟩ := h_i hM
    refine a_iald (σ := aG ι) (o := 25) C hw rfl hi rfl dX4_isWord_13 ?_
    refine lv_iconst (v := (1 : Int32)) hx hb dX4_isWord_14 (by decide) ?_
    refine lv_icmp_ne (tgt := 31) hx hb dX4_isWord_15 (by decide) (fun hc => ?_) (fun hc => ?_)
    · replace hM := h_f hc hM
      refine lv_iconst (v := (0 : Int32)) hx hb dX4_isWord_31 (by decide) ?_
      cases h_e hM
      exact a_zret C (zn (v := 0) (Or.inl rfl)) hw dX4_isWord_32
    · replace hM := h_t hc hM
      refine lv_aload_n hx hb dX4_isWord_18 rfl (lv_at hl 0 rfl) ?_
      refine a_getp (q := 27) (σ := aG ι) (o := 24) (T := TX4) (N := 6) C wU_X4 hw rfl (by decide) rfl 2 (by decide) rfl wF_X4_18 (aG_P rfl rfl) dX4_isWord_19 ?_
      refine lv_iload_n hx hb dX4_isWord_22 rfl (lv_at hl 1 rfl) ?_
      obtain ⟨hi, hM⟩ := h_i hM
      refine a_iald (σ := aG ι) (o := 27) C hw rfl hi rfl dX4_isWord_23 ?_
      refine lv_aload_n hx hb dX4_isWord_24 rfl (lv_at hl 2 rfl) ?_
      refine s_callV (k := x2) (σ' := aG ι) (v := (some (.int (sLen x2)))) (As := fun _ => []) (rest := [.int (gI ι 27 x1.toNatClampNeg)]) C hw (c_J0_length l hx2) hx2 k_J0_length wM_X4_57 ⟨⟨rfl, rfl⟩, ⟨Nat.le_of_ble_eq_true rfl, Nat.le_of_ble_eq_true rfl⟩⟩ rfl rfl hl rfl (Nat.le_of_ble_eq_true rfl) dX4_isWord_25 ⟨Nat.zero_le _, Nat.zero_le _⟩ (fun H locs hw => ?_)
      refine lv_icmp_eq (tgt := 33) hx hb dX4_isWord_28 (by decide) (fun hc => ?_) (fun hc => ?_)
      · replace hM := h_t hc hM
        refine lv_iconst (v := (0 : Int32)) hx hb dX4_isWord_33 (by decide) ?_
        refine lv_istore_n (lv' := [(3, .int (0 : Int32)), (0, .ref (ad 24)), (1, .int x1), (2, .ref (ad (1000000 + x2)))]) hx hb dX4_isWord_34 rfl hl (by decide) rfl (fun ls hl => ?_)
        exact tl_X4_isWord_35 l C hx2 aF (x1) ((0 : Int32)) hM hw (lv_sub hl [1, 2, 3, 0] rfl)
      · replace hM := h_f hc hM
        refine lv_iconst (v := (0 : Int32)) hx hb dX4_isWord_31 (by decide) ?_
        cases h_e hM
        exact a_zret C (zn (v := 0) (Or.inl rfl)) hw dX4_isWord_32
