def l_X7_text_207 : Nat → Int32 → Int32 → iS → Option (Int32 × iS)
  | 0, _, _, _ => none
  | n + 1, y1, y2, ι => if (gI ι 113 3) ≤ y2 then Option.bind (m_X7_remembers ι) fun r234 => Option.bind (m_X7_copies 113 112 r234) fun r245 => Option.bind (m_X7_persons r245) fun r249 => some (r249.1, r249.2) else if aIn ((99 : Int32) + y2) 883 = true then l_X7_text_207 n y1 (y2 + 1) (pI ι 113 ((99 : Int32) + y2).toNatClampNeg y2) else none
def l_X7_text_116 : Nat → Int32 → iS → Option (Int32 × iS)
  | 0, _, _ => none
  | n + 1, y1, ι => Option.bind (m_X7_fine ι) fun r117 => if r117.1 = 0 then Option.bind (m_X7_fine r117.2) fun r139 => if r139.1 = 0 then Option.bind (m_X7_fine (pI r139.2 109 5 (gI r139.2 109 7))) fun r172 => if r172.1 = 0 then some (((gI r172.2 109 6) - (10 : Int32)), r172.2) else Option.bind (m_X7_less (8 : Int32) ((1 : Int32) + (gI r172.2 113 1)) r172.2) fun r201 => l_X7_text_207 aF y1 (0 : Int32) (pI r201.2 113 3 r201.1) else if (gI r139.2 113 2) = 0 then Option.bind (m_X7_wrong (5 : Int32) (gI r139.2 109 3) r139.2) fun r160 => Option.bind (m_X7_fine (pI r160 109 5 (gI r160 109 7))) fun r172 => if r172.1 = 0 then some (((gI r172.2 109 6) - (10 : Int32)), r172.2) else Option.bind (m_X7_less (8 : Int32) ((1 : Int32) + (gI r172.2 113 1)) r172.2) fun r201 => l_X7_text_207 aF y1 (0 : Int32) (pI r201.2 113 3 r201.1) else Option.bind (m_X7_fine (pI r139.2 109 5 (gI r139.2 109 7))) fun r172 => if r172.1 = 0 then some (((gI r172.2 109 6) - (10 : Int32)), r172.2) else Option.bind (m_X7_less (8 : Int32) ((1 : Int32) + (gI r172.2 113 1)) r172.2) fun r201 => l_X7_text_207 aF y1 (0 : Int32) (pI r201.2 113 3 r201.1) else Option.bind (m_X7_here r117.2) fun r124 => if r124.1 = (-1 : Int32) then Option.bind (m_X7_fine r124.2) fun r139 => if r139.1 = 0 then Option.bind (m_X7_fine (pI r139.2 109 5 (gI r139.2 109 7))) fun r172 => if r172.1 = 0 then some (((gI r172.2 109 6) - (10 : Int32)), r172.2) else Option.bind (m_X7_less (8 : Int32) ((1 : Int32) + (gI r172.2 113 1)) r172.2) fun r201 => l_X7_text_207 aF y1 (0 : Int32) (pI r201.2 113 3 r201.1) else if (gI r139.2 113 2) = 0 then Option.bind (m_X7_wrong (5 : Int32) (gI r139.2 109 3) r139.2) fun r160 => Option.bind (m_X7_fine (pI r160 109 5 (gI r160 109 7))) fun r172 => if r172.1 = 0 then some (((gI r172.2 109 6) - (10 : Int32)), r172.2) else Option.bind (m_X7_less (8 : Int32) ((1 : Int32) + (gI r172.2 113 1)) r172.2) fun r201 => l_X7_text_207 aF y1 (0 : Int32) (pI r201.2 113 3 r201.1) else Option.bind (m_X7_fine (pI r139.2 109 5 (gI r139.2 109 7))) fun r172 => if r172.1 = 0 then some (((gI r172.2 109 6) - (10 : Int32)), r172.2) else Option.bind (m_X7_less (8 : Int32) ((1 : Int32) + (gI r172.2 113 1)) r172.2) fun r201 => l_X7_text_207 aF y1 (0 : Int32) (pI r201.2 113 3 r201.1) else Option.bind (m_X7_readsLine r124.2) fun r132 => l_X7_text_116 n y1 r132
def m_X7_text (x1 : Int32) (ι : iS) : Option (Int32 × iS) := Option.bind (m_X7_in x1 (0 : Int32) (gI (pI ι 109 0 (0 : Int32)) 109 2) (pI ι 109 0 (0 : Int32))) fun r12 => if r12.1 = 0 then Option.bind (m_X7_bad (1 : Int32) (1 : Int32) (1 : Int32) r12.2) fun r25 => if r25.1 = 0 then Option.bind (m_X7_begins 113 (pI (pI (pI (pI (pI (pI (pI (pI r25.2 109 2 (0 : Int32)) 109 3 x1) 109 4 (0 : Int32)) 109 6 (0 : Int32)) 109 7 (-1 : Int32)) 109 13 (0 : Int32)) 109 14 (0 : Int32)) 109 15 (0 : Int32))) fun r77 => Option.bind (m_X7_takes 0 r77) fun r83 => if r83.1 = 0 then Option.bind (m_X7_wrong (1 : Int32) (gI r83.2 109 4) r83.2) fun r95 => Option.bind (m_X7_number (1 : Int32) (5 : Int32) r95) fun r106 => Option.bind (m_X7_must (59 : Int32) (pI r106.2 113 0 r106.1)) fun r113 => l_X7_text_116 aF x1 r113 else Option.bind (m_X7_number (1 : Int32) (5 : Int32) r83.2) fun r106 => Option.bind (m_X7_must (59 : Int32) (pI r106.2 113 0 r106.1)) fun r113 => l_X7_text_116 aF x1 r113 else some ((0 : Int32), r25.2) else Option.bind (m_X7_bad (0 : Int32) (1 : Int32) (1 : Int32) r12.2) fun r25 => if r25.1 = 0 then Option.bind (m_X7_begins 113 (pI (pI (pI (pI (pI (pI (pI (pI r25.2 109 2 (0 : Int32)) 109 3 x1) 109 4 (0 : Int32)) 109 6 (0 : Int32)) 109 7 (-1 : Int32)) 109 13 (0 : Int32)) 109 14 (0 : Int32)) 109 15 (0 : Int32))) fun r77 => Option.bind (m_X7_takes 0 r77) fun r83 => if r83.1 = 0 then Option.bind (m_X7_wrong (1 : Int32) (gI r83.2 109 4) r83.2) fun r95 => Option.bind (m_X7_number (1 : Int32) (5 : Int32) r95) fun r106 => Option.bind (m_X7_must (59 : Int32) (pI r106.2 113 0 r106.1)) fun r113 => l_X7_text_116 aF x1 r113 else Option.bind (m_X7_number (1 : Int32) (5 : Int32) r83.2) fun r106 => Option.bind (m_X7_must (59 : Int32) (pI r106.2 113 0 r106.1)) fun r113 => l_X7_text_116 aF x1 r113 else some ((0 : Int32), r25.2)
theorem k_X7_text : aCal RX7 yX7_text cX7_text 3 (some .int) 1 := ⟨wI_yX7_text, wE_yX7_text, wZ_X7, wC_yX7_text, by decide +kernel⟩
def rm_X7_text : Room := { frames := 104, cells := 0, slots := 0, locals := 2368 }
set_option maxHeartbeats 4000000 in
set_option maxRecDepth 100000 in
theorem tl_X7_text_207 (l : Launch) {p : Program} {e : Env} {s : State} {m : MethodId} {args : Array Value} {below : List Frame} {meth : Method} {c : Code} {D : va_G} {dA : Nat → ClassId} {ad adV : Nat → Nat} {A : Nat → Prop} (C : aX p m c cX7_text 3 s args aTs RX7 meth (some .int)) {res : Int32 × iS} : ∀ (n : Nat) (y1 : Int32) (y2 : Int32) {ι : iS}, l_X7_text_207 n y1 y2 ι = some res → ∀ {H : Heap} {locs : List Loc} {ls : Array Slot}, aW D dA ad adV (aG ι) A s H locs → lv_has ls 3 [(0, .ref (ad 109)), (1, .int y1), (2, .int y2)] → W p l e rm_X7_text s m args below meth c H locs 0 0 (MQ below (aQ D dA ad (aG res.2) A (some (.int res.1))) args s 0 0 A) (F0 m 207 ls []) := by
  have hx := C.1.1
  have hb := C.1.2.1
  have hml := C.1.2.2.1
  have hown := C.1.2.2.2.1
  have hts := C.1.2.2.2.2
  intro n
  induction n with
  | zero => intro y1 y2 ι hM; simp [l_X7_text_207] at hM
  | succ n ih =>
    intro y1 y2 ι hM H locs ls hw hl
    rw [l_X7_text_207] at hM
    refine lv_iload_n hx hb dX7_text_207 rfl (lv_at hl 2 rfl) ?_
    refine lv_aload_n hx hb dX7_text_208 rfl (lv_at hl 0 rfl) ?_
    refine a_getp (q := 113) (σ := aG ι) (o := 109) (T := TX7) (N := 20) C wU_X7 hw rfl (by decide) rfl 10 (by decide) rfl wF_X7_23 (aG_P rfl rfl) dX7_text_209 ?_
    refine lv_iconst (v := (3 : Int32)) hx hb dX7_text_212 (by decide) ?_
    refine a_iald (σ := aG ι) (o := 113) C hw rfl (aIn_v (by decide)) (show (3 : Int32).toNatClampNeg = 3 by decide) dX7_text_213 ?_
    refine lv_icmp_ge (tgt := 233) hx hb dX7_text_214 (by decide) (fun hc => ?_) (fun hc => ?_)
    · replace hM := h_t hc hM
      refine lv_aload_n hx hb dX7_text_233 rfl (lv_at hl 0 rfl) ?_
      obtain ⟨r234, hr234, hM⟩ := h_b hM
      refine a_callV (σ' := aG r234) (v := none) (As := fun ad => []) (rest := []) (o := 109) C hw (c_X7_remembers l hr234) k_X7_remembers wM_X7_173 ⟨⟨rfl, rfl⟩, ⟨Nat.le_of_ble_eq_true rfl, Nat.le_of_ble_eq_true rfl⟩⟩ rfl (by decide) rfl rfl rfl hl rfl (Nat.le_of_ble_eq_true rfl) dX7_text_234 ⟨Nat.zero_le _, Nat.zero_le _⟩ (fun H locs hw => ?_)
      refine lv_aload_n hx hb dX7_text_237 rfl (lv_at hl 0 rfl) ?_
      refine a_getp (q := 113) (σ := aG r234) (o := 109) (T := TX7) (N := 20) C wU_X7 hw rfl (by decide) rfl 10 (by decide) rfl wF_X7_23 (aG_P rfl rfl) dX7_text_238 ?_
      refine lv_aload_n hx hb dX7_text_241 rfl (lv_at hl 0 rfl) ?_
      refine a_getp (q := 112) (σ := aG r234) (o := 109) (T := TX7) (N := 20) C wU_X7 hw rfl (by decide) rfl 9 (by decide) rfl wF_X7_20 (aG_P rfl rfl) dX7_text_242 ?_
      obtain ⟨r245, hr245, hM⟩ := h_b hM
      refine a_callS  (σ' := aG r245) (v := none) (as := fun ad => [.ref (ad 113), .ref (ad 112)]) (rest := []) C hw (c_X7_copies l (rfl) (rfl) hr245) k_X7_copies wM_X7_176 ⟨⟨rfl, rfl⟩, ⟨Nat.le_of_ble_eq_true rfl, Nat.le_of_ble_eq_true rfl⟩⟩ rfl hl rfl (Nat.le_of_ble_eq_true rfl) dX7_text_245 ⟨Nat.zero_le _, Nat.zero_le _⟩ (fun H locs hw => ?_)
      refine lv_aload_n hx hb dX7_text_248 rfl (lv_at hl 0 rfl) ?_
      obtain ⟨r249, hr249, hM⟩ := h_b hM
      refine a_callV (σ' := aG r249.2) (v := (some (.int r249.1))) (As := fun ad => []) (rest := []) (o := 109) C hw (c_X7_persons l hr249) k_X7_persons wM_X7_180 ⟨⟨rfl, rfl⟩, ⟨Nat.le_of_ble_eq_true rfl, Nat.le_of_ble_eq_true rfl⟩⟩ rfl (by decide) rfl rfl rfl hl rfl (Nat.le_of_ble_eq_true rfl) dX7_text_249 ⟨Nat.zero_le _, Nat.zero_le _⟩ (fun H locs hw => ?_)
      cases h_e hM
      exact a_iret C hw dX7_text_252
    · replace hM := h_f hc hM
      refine lv_aload_n hx hb dX7_text_217 rfl (lv_at hl 0 rfl) ?_
      refine a_getp (q := 113) (σ := aG ι) (o := 109) (T := TX7) (N := 20) C wU_X7 hw rfl (by decide) rfl 10 (by decide) rfl wF_X7_23 (aG_P rfl rfl) dX7_text_218 ?_
      refine lv_bipush (v := (99 : Int32)) hx hb dX7_text_221 (by decide) ?_
      refine lv_iload_n hx hb dX7_text_223 rfl (lv_at hl 2 rfl) ?_
      refine lv_iadd hx hb dX7_text_224 ?_
      refine lv_iload_n hx hb dX7_text_225 rfl (lv_at hl 2 rfl) ?_
      obtain ⟨hi, hM⟩ := h_i hM
      refine a_iast (σ := aG ι) (o := 113) C hw rfl hi rfl dX7_text_226 (fun H locs hw => ?_)
      have hw : aW D dA ad adV (aG (pI ι 113 ((99 : Int32) + y2).toNatClampNeg y2)) A s H locs := by rw [aG_PI] at hw; exact hw
      refine lv_iinc (v := (y2 + 1)) (lv' := [(2, .int (y2 + 1)), (0, .ref (ad 109)), (1, .int y1)]) hx hb dX7_text_227 hl (k := 2) rfl rfl (by decide) rfl (fun ls hl => ?_)
      refine lv_goto (tgt := 207) hx hb dX7_text_230 (by decide) ?_
      exact ih (y1) ((y2 + 1)) hM hw (lv_sub hl [1, 2, 0] rfl)
set_option maxHeartbeats 4000000 in
set_option maxRecDepth 100000 in
theorem tl_X7_text_116 (l : Launch) {p : Program} {e : Env} {s : State} {m : MethodId} {args : Array Value} {below : List Frame} {meth : Method} {c : Code} {D : va_G} {dA : Nat → ClassId} {ad adV : Nat → Nat} {A : Nat → Prop} (C : aX p m c cX7_text 3 s args aTs RX7 meth (some .int)) {res : Int32 × iS} : ∀ (n : Nat) (y1 : Int32) {ι : iS}, l_X7_text_116 n y1 ι = some res → ∀ {H : Heap} {locs : List Loc} {ls : Array Slot}, aW D dA ad adV (aG ι) A s H locs → lv_has ls 3 [(0, .ref (ad 109)), (1, .int y1)] → W p l e rm_X7_text s m args below meth c H locs 0 0 (MQ below (aQ D dA ad (aG res.2) A (some (.int res.1))) args s 0 0 A) (F0 m 116 ls []) := by
  have hx := C.1.1
  have hb := C.1.2.1
  have hml := C.1.2.2.1
  have hown := C.1.2.2.2.1
  have hts := C.1.2.2.2.2
  intro n
  induction n with
  | zero => intro y1 ι hM; simp [l_X7_text_116] at hM
  | succ n ih =>
    intro y1 ι hM H locs ls hw hl
    rw [l_X7_text_116] at hM
    refine lv_aload_n hx hb dX7_text_116 rfl (lv_at hl 0 rfl) ?_
    obtain ⟨r117, hr117, hM⟩ := h_b hM
    refine a_callV (σ' := aG r117.2) (v := (some (.int r117.1))) (As := fun ad => []) (rest := []) (o := 109) C hw (c_X7_fine l hr117) k_X7_fine wM_X7_64 ⟨⟨rfl, rfl⟩, ⟨Nat.le_of_ble_eq_true rfl, Nat.le_of_ble_eq_true rfl⟩⟩ rfl (by decide) rfl rfl rfl hl rfl (Nat.le_of_ble_eq_true rfl) dX7_text_117 ⟨Nat.zero_le _, Nat.zero_le _⟩ (fun H locs hw => ?_)
    refine lv_if_eq (tgt := 138) hx hb dX7_text_120 (by decide) (fun hc => ?_) (fun hc => ?_)
    · replace hM := h_t hc hM
      refine lv_aload_n hx hb dX7_text_138 rfl (lv_at hl 0 rfl) ?_
      obtain ⟨r139, hr139, hM⟩ := h_b hM
      refine a_callV (σ' := aG r139.2) (v := (some (.int r139.1))) (As := fun ad => []) (rest := []) (o := 109) C hw (c_X7_fine l hr139) k_X7_fine wM_X7_64 ⟨⟨rfl, rfl⟩, ⟨Nat.le_of_ble_eq_true rfl, Nat.le_of_ble_eq_true rfl⟩⟩ rfl (by decide) rfl rfl rfl hl rfl (Nat.le_of_ble_eq_true rfl) dX7_text_139 ⟨Nat.zero_le _, Nat.zero_le _⟩ (fun H locs hw => ?_)
      refine lv_if_eq (tgt := 163) hx hb dX7_text_142 (by decide) (fun hc => ?_) (fun hc => ?_)
      · replace hM := h_t hc hM
        refine lv_aload_n hx hb dX7_text_163 rfl (lv_at hl 0 rfl) ?_
        refine lv_aload_n hx hb dX7_text_164 rfl (lv_at hl 0 rfl) ?_
        refine a_geti (σ := aG r139.2) (o := 109) (T := TX7) (N := 20) C wU_X7 hw rfl (by decide) rfl 7 (by decide) rfl wF_X7_61 dX7_text_165 ?_
        refine a_puti (ty := .int) (σ := aG r139.2) (o := 109) (T := TX7) (N := 20) (ty0 := tyX7) C wU_X7 tyX7_ok nmX7 hw rfl (by decide) rfl 5 (by decide) rfl wF_X7_13 rfl (by decide +kernel) rfl rfl dX7_text_168 (fun H locs hw => ?_)
        have hw : aW D dA ad adV (aG (pI r139.2 109 5 (gI r139.2 109 7))) A s H locs := by rw [aG_PI] at hw; exact hw
        refine lv_aload_n hx hb dX7_text_171 rfl (lv_at hl 0 rfl) ?_
        obtain ⟨r172, hr172, hM⟩ := h_b hM
        refine a_callV (σ' := aG r172.2) (v := (some (.int r172.1))) (As := fun ad => []) (rest := []) (o := 109) C hw (c_X7_fine l hr172) k_X7_fine wM_X7_64 ⟨⟨rfl, rfl⟩, ⟨Nat.le_of_ble_eq_true rfl, Nat.le_of_ble_eq_true rfl⟩⟩ rfl (by decide) rfl rfl rfl hl rfl (Nat.le_of_ble_eq_true rfl) dX7_text_172 ⟨Nat.zero_le _, Nat.zero_le _⟩ (fun H locs hw => ?_)
        refine lv_if_ne (tgt := 186) hx hb dX7_text_175 (by decide) (fun hc => ?_) (fun hc => ?_)
        · replace hM := h_f hc hM
          refine lv_aload_n hx hb dX7_text_186 rfl (lv_at hl 0 rfl) ?_
          refine a_getp (q := 113) (σ := aG r172.2) (o := 109) (T := TX7) (N := 20) C wU_X7 hw rfl (by decide) rfl 10 (by decide) rfl wF_X7_23 (aG_P rfl rfl) dX7_text_187 ?_
          refine lv_iconst (v := (3 : Int32)) hx hb dX7_text_190 (by decide) ?_
          refine lv_bipush (v := (8 : Int32)) hx hb dX7_text_191 (by decide) ?_
          refine lv_iconst (v := (1 : Int32)) hx hb dX7_text_193 (by decide) ?_
          refine lv_aload_n hx hb dX7_text_194 rfl (lv_at hl 0 rfl) ?_
          refine a_getp (q := 113) (σ := aG r172.2) (o := 109) (T := TX7) (N := 20) C wU_X7 hw rfl (by decide) rfl 10 (by decide) rfl wF_X7_23 (aG_P rfl rfl) dX7_text_195 ?_
          refine lv_iconst (v := (1 : Int32)) hx hb dX7_text_198 (by decide) ?_
          refine a_iald (σ := aG r172.2) (o := 113) C hw rfl (aIn_v (by decide)) (show (1 : Int32).toNatClampNeg = 1 by decide) dX7_text_199 ?_
          refine lv_iadd hx hb dX7_text_200 ?_
          obtain ⟨r201, hr201, hM⟩ := h_b hM
          refine a_callS  (σ' := aG r201.2) (v := (some (.int r201.1))) (as := fun ad => [.int (8 : Int32), .int ((1 : Int32) + (gI r172.2 113 1))]) (rest := [.int (3 : Int32), .ref (ad 113)]) C hw (c_X7_less l hr201) k_X7_less wM_X7_94 ⟨⟨rfl, rfl⟩, ⟨Nat.le_of_ble_eq_true rfl, Nat.le_of_ble_eq_true rfl⟩⟩ rfl hl rfl (Nat.le_of_ble_eq_true rfl) dX7_text_201 ⟨Nat.zero_le _, Nat.zero_le _⟩ (fun H locs hw => ?_)
          refine a_iast (σ := aG r201.2) (o := 113) C hw rfl (aIn_v (by decide)) (show (3 : Int32).toNatClampNeg = 3 by decide) dX7_text_204 (fun H locs hw => ?_)
          have hw : aW D dA ad adV (aG (pI r201.2 113 3 r201.1)) A s H locs := by rw [aG_PI] at hw; exact hw
          refine lv_iconst (v := (0 : Int32)) hx hb dX7_text_205 (by decide) ?_
          refine lv_istore_n (lv' := [(2, .int (0 : Int32)), (0, .ref (ad 109)), (1, .int y1)]) hx hb dX7_text_206 rfl hl (by decide) rfl (fun ls hl => ?_)
          exact tl_X7_text_207 l C aF (y1) ((0 : Int32)) hM hw (lv_sub hl [1, 2, 0] rfl)
        · replace hM := h_t hc hM
          refine lv_aload_n hx hb dX7_text_178 rfl (lv_at hl 0 rfl) ?_
          refine a_geti (σ := aG r172.2) (o := 109) (T := TX7) (N := 20) C wU_X7 hw rfl (by decide) rfl 6 (by decide) rfl wF_X7_58 dX7_text_179 ?_
          refine lv_bipush (v := (10 : Int32)) hx hb dX7_text_182 (by decide) ?_
          refine lv_isub hx hb dX7_text_184 ?_
          cases h_e hM
          exact a_iret C hw dX7_text_185
      · replace hM := h_f hc hM
        refine lv_aload_n hx hb dX7_text_145 rfl (lv_at hl 0 rfl) ?_
        refine a_getp (q := 113) (σ := aG r139.2) (o := 109) (T := TX7) (N := 20) C wU_X7 hw rfl (by decide) rfl 10 (by decide) rfl wF_X7_23 (aG_P rfl rfl) dX7_text_146 ?_
        refine lv_iconst (v := (2 : Int32)) hx hb dX7_text_149 (by decide) ?_
        refine a_iald (σ := aG r139.2) (o := 113) C hw rfl (aIn_v (by decide)) (show (2 : Int32).toNatClampNeg = 2 by decide) dX7_text_150 ?_
        refine lv_if_ne (tgt := 163) hx hb dX7_text_151 (by decide) (fun hc => ?_) (fun hc => ?_)
        · replace hM := h_f hc hM
          refine lv_aload_n hx hb dX7_text_163 rfl (lv_at hl 0 rfl) ?_
          refine lv_aload_n hx hb dX7_text_164 rfl (lv_at hl 0 rfl) ?_
          refine a_geti (σ := aG r139.2) (o := 109) (T := TX7) (N := 20) C wU_X7 hw rfl (by decide) rfl 7 (by decide) rfl wF_X7_61 dX7_text_165 ?_
          refine a_puti (ty := .int) (σ := aG r139.2) (o := 109) (T := TX7) (N := 20) (ty0 := tyX7) C wU_X7 tyX7_ok nmX7 hw rfl (by decide) rfl 5 (by decide) rfl wF_X7_13 rfl (by decide +kernel) rfl rfl dX7_text_168 (fun H locs hw => ?_)
          have hw : aW D dA ad adV (aG (pI r139.2 109 5 (gI r139.2 109 7))) A s H locs := by rw [aG_PI] at hw; exact hw
          refine lv_aload_n hx hb dX7_text_171 rfl (lv_at hl 0 rfl) ?_
          obtain ⟨r172, hr172, hM⟩ := h_b hM
          refine a_callV (σ' := aG r172.2) (v := (some (.int r172.1))) (As := fun ad => []) (rest := []) (o := 109) C hw (c_X7_fine l hr172) k_X7_fine wM_X7_64 ⟨⟨rfl, rfl⟩, ⟨Nat.le_of_ble_eq_true rfl, Nat.le_of_ble_eq_true rfl⟩⟩ rfl (by decide) rfl rfl rfl hl rfl (Nat.le_of_ble_eq_true rfl) dX7_text_172 ⟨Nat.zero_le _, Nat.zero_le _⟩ (fun H locs hw => ?_)
          refine lv_if_ne (tgt := 186) hx hb dX7_text_175 (by decide) (fun hc => ?_) (fun hc => ?_)
          · replace hM := h_f hc hM
            refine lv_aload_n hx hb dX7_text_186 rfl (lv_at hl 0 rfl) ?_
            refine a_getp (q := 113) (σ := aG r172.2) (o := 109) (T := TX7) (N := 20) C wU_X7 hw rfl (by decide) rfl 10 (by decide) rfl wF_X7_23 (aG_P rfl rfl) dX7_text_187 ?_
            refine lv_iconst (v := (3 : Int32)) hx hb dX7_text_190 (by decide) ?_
            refine lv_bipush (v := (8 : Int32)) hx hb dX7_text_191 (by decide) ?_
            refine lv_iconst (v := (1 : Int32)) hx hb dX7_text_193 (by decide) ?_
            refine lv_aload_n hx hb dX7_text_194 rfl (lv_at hl 0 rfl) ?_
            refine a_getp (q := 113) (σ := aG r172.2) (o := 109) (T := TX7) (N := 20) C wU_X7 hw rfl (by decide) rfl 10 (by decide) rfl wF_X7_23 (aG_P rfl rfl) dX7_text_195 ?_
            refine lv_iconst (v := (1 : Int32)) hx hb dX7_text_198 (by decide) ?_
            refine a_iald (σ := aG r172.2) (o := 113) C hw rfl (aIn_v (by decide)) (show (1 : Int32).toNatClampNeg = 1 by decide) dX7_text_199 ?_
            refine lv_iadd hx hb dX7_text_200 ?_
            obtain ⟨r201, hr201, hM⟩ := h_b hM
            refine a_callS  (σ' := aG r201.2) (v := (some (.int r201.1))) (as := fun ad => [.int (8 : Int32), .int ((1 : Int32) + (gI r172.2 113 1))]) (rest := [.int (3 : Int32), .ref (ad 113)]) C hw (c_X7_less l hr201) k_X7_less wM_X7_94 ⟨⟨rfl, rfl⟩, ⟨Nat.le_of_ble_eq_true rfl, Nat.le_of_ble_eq_true rfl⟩⟩ rfl hl rfl (Nat.le_of_ble_eq_true rfl) dX7_text_201 ⟨Nat.zero_le _, Nat.zero_le _⟩ (fun H locs hw => ?_)
            refine a_iast (σ := aG r201.2) (o := 113) C hw rfl (aIn_v (by decide)) (show (3 : Int32).toNatClampNeg = 3 by decide) dX7_text_204 (fun H locs hw => ?_)
            have hw : aW D dA ad adV (aG (pI r201.2 113 3 r201.1)) A s H locs := by rw [aG_PI] at hw; exact hw
            refine lv_iconst (v := (0 : Int32)) hx hb dX7_text_205 (by decide) ?_
            refine lv_istore_n (lv' := [(2, .int (0 : Int32)), (0, .ref (ad 109)), (1, .int y1)]) hx hb dX7_text_206 rfl hl (by decide) rfl (fun ls hl => ?_)
            exact tl_X7_text_207 l C aF (y1) ((0 : Int32)) hM hw (lv_sub hl [1, 2, 0] rfl)
          · replace hM := h_t hc hM
            refine lv_aload_n hx hb dX7_text_178 rfl (lv_at hl 0 rfl) ?_
            refine a_geti (σ := aG r172.2) (o := 109) (T := TX7) (N := 20) C wU_X7 hw rfl (by decide) rfl 6 (by decide) rfl wF_X7_58 dX7_text_179 ?_
            refine lv_bipush (v := (10 : Int32)) hx hb dX7_text_182 (by decide) ?_
            refine lv_isub hx hb dX7_text_184 ?_
            cases h_e hM
            exact a_iret C hw dX7_text_185
        · replace hM := h_t hc hM
          refine lv_aload_n hx hb dX7_text_154 rfl (lv_at hl 0 rfl) ?_
          refine lv_iconst (v := (5 : Int32)) hx hb dX7_text_155 (by decide) ?_
          refine lv_aload_n hx hb dX7_text_156 rfl (lv_at hl 0 rfl) ?_
          refine a_geti (σ := aG r139.2) (o := 109) (T := TX7) (N := 20) C wU_X7 hw rfl (by decide) rfl 3 (by decide) rfl wF_X7_48 dX7_text_157 ?_
          obtain ⟨r160, hr160, hM⟩ := h_b hM
          refine a_callV (σ' := aG r160) (v := none) (As := fun ad => [.int (5 : Int32), .int (gI r139.2 109 3)]) (rest := []) (o := 109) C hw (c_X7_wrong l hr160) k_X7_wrong wM_X7_85 ⟨⟨rfl, rfl⟩, ⟨Nat.le_of_ble_eq_true rfl, Nat.le_of_ble_eq_true rfl⟩⟩ rfl (by decide) rfl rfl rfl hl rfl (Nat.le_of_ble_eq_true rfl) dX7_text_160 ⟨Nat.zero_le _, Nat.zero_le _⟩ (fun H locs hw => ?_)
          refine lv_aload_n hx hb dX7_text_163 rfl (lv_at hl 0 rfl) ?_
          refine lv_aload_n hx hb dX7_text_164 rfl (lv_at hl 0 rfl) ?_
          refine a_geti (σ := aG r160) (o := 109) (T := TX7) (N := 20) C wU_X7 hw rfl (by decide) rfl 7 (by decide) rfl wF_X7_61 dX7_text_165 ?_
          refine a_puti (ty := .int) (σ := aG r160) (o := 109) (T := TX7) (N := 20) (ty0 := tyX7) C wU_X7 tyX7_ok nmX7 hw rfl (by decide) rfl 5 (by decide) rfl wF_X7_13 rfl (by decide +kernel) rfl rfl dX7_text_168 (fun H locs hw => ?_)
          have hw : aW D dA ad adV (aG (pI r160 109 5 (gI r160 109 7))) A s H locs := by rw [aG_PI] at hw; exact hw
          refine lv_aload_n hx hb dX7_text_171 rfl (lv_at hl 0 rfl) ?_
          obtain ⟨r172, hr172, hM⟩ := h_b hM
          refine a_callV (σ' := aG r172.2) (v := (some (.int r172.1))) (As := fun ad => []) (rest := []) (o := 109) C hw (c_X7_fine l hr172) k_X7_fine wM_X7_64 ⟨⟨rfl, rfl⟩, ⟨Nat.le_of_ble_eq_true rfl, Nat.le_of_ble_eq_true rfl⟩⟩ rfl (by decide) rfl rfl rfl hl rfl (Nat.le_of_ble_eq_true rfl) dX7_text_172 ⟨Nat.zero_le _, Nat.zero_le _⟩ (fun H locs hw => ?_)
          refine lv_if_ne (tgt := 186) hx hb dX7_text_175 (by decide) (fun hc => ?_) (fun hc => ?_)
          · replace hM := h_f hc hM
            refine lv_aload_n hx hb dX7_text_186 rfl (lv_at hl 0 rfl) ?_
            refine a_getp (q := 113) (σ := aG r172.2) (o := 109) (T := TX7) (N := 20) C wU_X7 hw rfl (by decide) rfl 10 (by decide) rfl wF_X7_23 (aG_P rfl rfl) dX7_text_187 ?_
            refine lv_iconst (v := (3 : Int32)) hx hb dX7_text_190 (by decide) ?_
            refine lv_bipush (v := (8 : Int32)) hx hb dX7_text_191 (by decide) ?_
            refine lv_iconst (v := (1 : Int32)) hx hb dX7_text_193 (by decide) ?_
            refine lv_aload_n hx hb dX7_text_194 rfl (lv_at hl 0 rfl) ?_
            refine a_getp (q := 113) (σ := aG r172.2) (o := 109) (T := TX7) (N := 20) C wU_X7 hw rfl (by decide) rfl 10 (by decide) rfl wF_X7_23 (aG_P rfl rfl) dX7_text_195 ?_
            refine lv_iconst (v := (1 : Int32)) hx hb dX7_text_198 (by decide) ?_
            refine a_iald (σ := aG r172.2) (o := 113) C hw rfl (aIn_v (by decide)) (show (1 : Int32).toNatClampNeg = 1 by decide) dX7_text_199 ?_
            refine lv_iadd hx hb dX7_text_200 ?_
            obtain ⟨r201, hr201, hM⟩ := h_b hM
            refine a_callS  (σ' := aG r201.2) (v := (some (.int r201.1))) (as := fun ad => [.int (8 : Int32), .int ((1 : Int32) + (gI r172.2 113 1))]) (rest := [.int (3 : Int32), .ref (ad 113)]) C hw (c_X7_less l hr201) k_X7_less wM_X7_94 ⟨⟨rfl, rfl⟩, ⟨Nat.le_of_ble_eq_true rfl, Nat.le_of_ble_eq_true rfl⟩⟩ rfl hl rfl (Nat.le_of_ble_eq_true rfl) dX7_text_201 ⟨Nat.zero_le _, Nat.zero_le _⟩ (fun H locs hw => ?_)
            refine a_iast (σ := aG r201.2) (o := 113) C hw rfl (aIn_v (by decide)) (show (3 : Int32).toNatClampNeg = 3 by decide) dX7_text_204 (fun H locs hw => ?_)
            have hw : aW D dA ad adV (aG (pI r201.2 113 3 r201.1)) A s H locs := by rw [aG_PI] at hw; exact hw
            refine lv_iconst (v := (0 : Int32)) hx hb dX7_text_205 (by decide) ?_
            refine lv_istore_n (lv' := [(2, .int (0 : Int32)), (0, .ref (ad 109)), (1, .int y1)]) hx hb dX7_text_206 rfl hl (by decide) rfl (fun ls hl => ?_)
            exact tl_X7_text_207 l C aF (y1) ((0 : Int32)) hM hw (lv_sub hl [1, 2, 0] rfl)
          · replace hM := h_t hc hM
            refine lv_aload_n hx hb dX7_text_178 rfl (lv_at hl 0 rfl) ?_
            refine a_geti (σ := aG r172.2) (o := 109) (T := TX7) (N := 20) C wU_X7 hw rfl (by decide) rfl 6 (by decide) rfl wF_X7_58 dX7_text_179 ?_
            refine lv_bipush (v := (10 : Int32)) hx hb dX7_text_182 (by decide) ?_
            refine lv_isub hx hb dX7_text_184 ?_
            cases h_e hM
            exact a_iret C hw dX7_text_185
    · replace hM := h_f hc hM
      refine lv_aload_n hx hb dX7_text_123 rfl (lv_at hl 0 rfl) ?_
      obtain ⟨r124, hr124, hM⟩ := h_b hM
      refine a_callV (σ' := aG r124.2) (v := (some (.int r124.1))) (As := fun ad => []) (rest := []) (o := 109) C hw (c_X7_here l hr124) k_X7_here wM_X7_68 ⟨⟨rfl, rfl⟩, ⟨Nat.le_of_ble_eq_true rfl, Nat.le_of_ble_eq_true rfl⟩⟩ rfl (by decide) rfl rfl rfl hl rfl (Nat.le_of_ble_eq_true rfl) dX7_text_124 ⟨Nat.zero_le _, Nat.zero_le _⟩ (fun H locs hw => ?_)
      refine lv_iconst (v := (-1 : Int32)) hx hb dX7_text_127 (by decide) ?_
      refine lv_icmp_eq (tgt := 138) hx hb dX7_text_128 (by decide) (fun hc => ?_) (fun hc => ?_)
      · replace hM := h_t hc hM
        refine lv_aload_n hx hb dX7_text_138 rfl (lv_at hl 0 rfl) ?_
        obtain ⟨r139, hr139, hM⟩ := h_b hM
        refine a_callV (σ' := aG r139.2) (v := (some (.int r139.1))) (As := fun ad => []) (rest := []) (o := 109) C hw (c_X7_fine l hr139) k_X7_fine wM_X7_64 ⟨⟨rfl, rfl⟩, ⟨Nat.le_of_ble_eq_true rfl, Nat.le_of_ble_eq_true rfl⟩⟩ rfl (by decide) rfl rfl rfl hl rfl (Nat.le_of_ble_eq_true rfl) dX7_text_139 ⟨Nat.zero_le _, Nat.zero_le _⟩ (fun H locs hw => ?_)
        refine lv_if_eq (tgt := 163) hx hb dX7_text_142 (by decide) (fun hc => ?_) (fun hc => ?_)
        · replace hM := h_t hc hM
          refine lv_aload_n hx hb dX7_text_163 rfl (lv_at hl 0 rfl) ?_
          refine lv_aload_n hx hb dX7_text_164 rfl (lv_at hl 0 rfl) ?_
          refine a_geti (σ := aG r139.2) (o := 109) (T := TX7) (N := 20) C wU_X7 hw rfl (by decide) rfl 7 (by decide) rfl wF_X7_61 dX7_text_165 ?_
          refine a_puti (ty := .int) (σ := aG r139.2) (o := 109) (T := TX7) (N := 20) (ty0 := tyX7) C wU_X7 tyX7_ok nmX7 hw rfl (by decide) rfl 5 (by decide) rfl wF_X7_13 rfl (by decide +kernel) rfl rfl dX7_text_168 (fun H locs hw => ?_)
          have hw : aW D dA ad adV (aG (pI r139.2 109 5 (gI r139.2 109 7))) A s H locs := by rw [aG_PI] at hw; exact hw
          refine lv_aload_n hx hb dX7_text_171 rfl (lv_at hl 0 rfl) ?_
          obtain ⟨r172, hr172, hM⟩ := h_b hM
          refine a_callV (σ' := aG r172.2) (v := (some (.int r172.1))) (As := fun ad => []) (rest := []) (o := 109) C hw (c_X7_fine l hr172) k_X7_fine wM_X7_64 ⟨⟨rfl, rfl⟩, ⟨Nat.le_of_ble_eq_true rfl, Nat.le_of_ble_eq_true rfl⟩⟩ rfl (by decide) rfl rfl rfl hl rfl (Nat.le_of_ble_eq_true rfl) dX7_text_172 ⟨Nat.zero_le _, Nat.zero_le _⟩ (fun H locs hw => ?_)
          refine lv_if_ne (tgt := 186) hx hb dX7_text_175 (by decide) (fun hc => ?_) (fun hc => ?_)
          · replace hM := h_f hc hM
            refine lv_aload_n hx hb dX7_text_186 rfl (lv_at hl 0 rfl) ?_
            refine a_getp (q := 113) (σ := aG r172.2) (o := 109) (T := TX7) (N := 20) C wU_X7 hw rfl (by decide) rfl 10 (by decide) rfl wF_X7_23 (aG_P rfl rfl) dX7_text_187 ?_
            refine lv_iconst (v := (3 : Int32)) hx hb dX7_text_190 (by decide) ?_
            refine lv_bipush (v := (8 : Int32)) hx hb dX7_text_191 (by decide) ?_
            refine lv_iconst (v := (1 : Int32)) hx hb dX7_text_193 (by decide) ?_
            refine lv_aload_n hx hb dX7_text_194 rfl (lv_at hl 0 rfl) ?_
            refine a_getp (q := 113) (σ := aG r172.2) (o := 109) (T := TX7) (N := 20) C wU_X7 hw rfl (by decide) rfl 10 (by decide) rfl wF_X7_23 (aG_P rfl rfl) dX7_text_195 ?_
            refine lv_iconst (v := (1 : Int32)) hx hb dX7_text_198 (by decide) ?_
            refine a_iald (σ := aG r172.2) (o := 113) C hw rfl (aIn_v (by decide)) (show (1 : Int32).toNatClampNeg = 1 by decide) dX7_text_199 ?_
            refine lv_iadd hx hb dX7_text_200 ?_
            obtain ⟨r201, hr201, hM⟩ := h_b hM
            refine a_callS  (σ' := aG r201.2) (v := (some (.int r201.1))) (as := fun ad => [.int (8 : Int32), .int ((1 : Int32) + (gI r172.2 113 1))]) (rest := [.int (3 : Int32), .ref (ad 113)]) C hw (c_X7_less l hr201) k_X7_less wM_X7_94 ⟨⟨rfl, rfl⟩, ⟨Nat.le_of_ble_eq_true rfl, Nat.le_of_ble_eq_true rfl⟩⟩ rfl hl rfl (Nat.le_of_ble_eq_true rfl) dX7_text_201 ⟨Nat.zero_le _, Nat.zero_le _⟩ (fun H locs hw => ?_)
            refine a_iast (σ := aG r201.2) (o := 113) C hw rfl (aIn_v (by decide)) (show (3 : Int32).toNatClampNeg = 3 by decide) dX7_text_204 (fun H locs hw => ?_)
            have hw : aW D dA ad adV (aG (pI r201.2 113 3 r201.1)) A s H locs := by rw [aG_PI] at hw; exact hw
            refine lv_iconst (v := (0 : Int32)) hx hb dX7_text_205 (by decide) ?_
            refine lv_istore_n (lv' := [(2, .int (0 : Int32)), (0, .ref (ad 109)), (1, .int y1)]) hx hb dX7_text_206 rfl hl (by decide) rfl (fun ls hl => ?_)
            exact tl_X7_text_207 l C aF (y1) ((0 : Int32)) hM hw (lv_sub hl [1, 2, 0] rfl)
          · replace hM := h_t hc hM
            refine lv_aload_n hx hb dX7_text_178 rfl (lv_at hl 0 rfl) ?_
            refine a_geti (σ := aG r172.2) (o := 109) (T := TX7) (N := 20) C wU_X7 hw rfl (by decide) rfl 6 (by decide) rfl wF_X7_58 dX7_text_179 ?_
            refine lv_bipush (v := (10 : Int32)) hx hb dX7_text_182 (by decide) ?_
            refine lv_isub hx hb dX7_text_184 ?_
            cases h_e hM
            exact a_iret C hw dX7_text_185
        · replace hM := h_f hc hM
          refine lv_aload_n hx hb dX7_text_145 rfl (lv_at hl 0 rfl) ?_
          refine a_getp (q := 113) (σ := aG r139.2) (o := 109) (T := TX7) (N := 20) C wU_X7 hw rfl (by decide) rfl 10 (by decide) rfl wF_X7_23 (aG_P rfl rfl) dX7_text_146 ?_
          refine lv_iconst (v := (2 : Int32)) hx hb dX7_text_149 (by decide) ?_
          refine a_iald (σ := aG r139.2) (o := 113) C hw rfl (aIn_v (by decide)) (show (2 : Int32).toNatClampNeg = 2 by decide) dX7_text_150 ?_
          refine lv_if_ne (tgt := 163) hx hb dX7_text_151 (by decide) (fun hc => ?_) (fun hc => ?_)
          · replace hM := h_f hc hM
            refine lv_aload_n hx hb dX7_text_163 rfl (lv_at hl 0 rfl) ?_
            refine lv_aload_n hx hb dX7_text_164 rfl (lv_at hl 0 rfl) ?_
            refine a_geti (σ := aG r139.2) (o := 109) (T := TX7) (N := 20) C wU_X7 hw rfl (by decide) rfl 7 (by decide) rfl wF_X7_61 dX7_text_165 ?_
            refine a_puti (ty := .int) (σ := aG r139.2) (o := 109) (T := TX7) (N := 20) (ty0 := tyX7) C wU_X7 tyX7_ok nmX7 hw rfl (by decide) rfl 5 (by decide) rfl wF_X7_13 rfl (by decide +kernel) rfl rfl dX7_text_168 (fun H locs hw => ?_)
            have hw : aW D dA ad adV (aG (pI r139.2 109 5 (gI r139.2 109 7))) A s H locs := by rw [aG_PI] at hw; exact hw
            refine lv_aload_n hx hb dX7_text_171 rfl (lv_at hl 0 rfl) ?_
            obtain ⟨r172, hr172, hM⟩ := h_b hM
            refine a_callV (σ' := aG r172.2) (v := (some (.int r172.1))) (As := fun ad => []) (rest := []) (o := 109) C hw (c_X7_fine l hr172) k_X7_fine wM_X7_64 ⟨⟨rfl, rfl⟩, ⟨Nat.le_of_ble_eq_true rfl, Nat.le_of_ble_eq_true rfl⟩⟩ rfl (by decide) rfl rfl rfl hl rfl (Nat.le_of_ble_eq_true rfl) dX7_text_172 ⟨Nat.zero_le _, Nat.zero_le _⟩ (fun H locs hw => ?_)
            refine lv_if_ne (tgt := 186) hx hb dX7_text_175 (by decide) (fun hc => ?_) (fun hc => ?_)
            · replace hM := h_f hc hM
              refine lv_aload_n hx hb dX7_text_186 rfl (lv_at hl 0 rfl) ?_
              refine a_getp (q := 113) (σ := aG r172.2) (o := 109) (T := TX7) (N := 20) C wU_X7 hw rfl (by decide) rfl 10 (by decide) rfl wF_X7_23 (aG_P rfl rfl) dX7_text_187 ?_
              refine lv_iconst (v := (3 : Int32)) hx hb dX7_text_190 (by decide) ?_
              refine lv_bipush (v := (8 : Int32)) hx hb dX7_text_191 (by decide) ?_
              refine lv_iconst (v := (1 : Int32)) hx hb dX7_text_193 (by decide) ?_
              refine lv_aload_n hx hb dX7_text_194 rfl (lv_at hl 0 rfl) ?_
              refine a_getp (q := 113) (σ := aG r172.2) (o := 109) (T := TX7) (N := 20) C wU_X7 hw rfl (by decide) rfl 10 (by decide) rfl wF_X7_23 (aG_P rfl rfl) dX7_text_195 ?_
              refine lv_iconst (v := (1 : Int32)) hx hb dX7_text_198 (by decide) ?_
              refine a_iald (σ := aG r172.2) (o := 113) C hw rfl (aIn_v (by decide)) (show (1 : Int32).toNatClampNeg = 1 by decide) dX7_text_199 ?_
              refine lv_iadd hx hb dX7_text_200 ?_
              obtain ⟨r201, hr201, hM⟩ := h_b hM
              refine a_callS  (σ' := aG r201.2) (v := (some (.int r201.1))) (as := fun ad => [.int (8 : Int32), .int ((1 : Int32) + (gI r172.2 113 1))]) (rest := [.int (3 : Int32), .ref (ad 113)]) C hw (c_X7_less l hr201) k_X7_less wM_X7_94 ⟨⟨rfl, rfl⟩, ⟨Nat.le_of_ble_eq_true rfl, Nat.le_of_ble_eq_true rfl⟩⟩ rfl hl rfl (Nat.le_of_ble_eq_true rfl) dX7_text_201 ⟨Nat.zero_le _, Nat.zero_le _⟩ (fun H locs hw => ?_)
              refine a_iast (σ := aG r201.2) (o := 113) C hw rfl (aIn_v (by decide)) (show (3 : Int32).toNatClampNeg = 3 by decide) dX7_text_204 (fun H locs hw => ?_)
              have hw : aW D dA ad adV (aG (pI r201.2 113 3 r201.1)) A s H locs := by rw [aG_PI] at hw; exact hw
              refine lv_iconst (v := (0 : Int32)) hx hb dX7_text_205 (by decide) ?_
              refine lv_istore_n (lv' := [(2, .int (0 : Int32)), (0, .ref (ad 109)), (1, .int y1)]) hx hb dX7_text_206 rfl hl (by decide) rfl (fun ls hl => ?_)
              exact tl_X7_text_207 l C aF (y1) ((0 : Int32)) hM hw (lv_sub hl [1, 2, 0] rfl)
            · replace hM := h_t hc hM
              refine lv_aload_n hx hb dX7_text_178 rfl (lv_at hl 0 rfl) ?_
              refine a_geti (σ := aG r172.2) (o := 109) (T := TX7) (N := 20) C wU_X7 hw rfl (by decide) rfl 6 (by decide) rfl wF_X7_58 dX7_text_179 ?_
              refine lv_bipush (v := (10 : Int32)) hx hb dX7_text_182 (by decide) ?_
              refine lv_isub hx hb dX7_text_184 ?_
              cases h_e hM
              exact a_iret C hw dX7_text_185
          · replace hM := h_t hc hM
            refine lv_aload_n hx hb dX7_text_154 rfl (lv_at hl 0 rfl) ?_
            refine lv_iconst (v := (5 : Int32)) hx hb dX7_text_155 (by decide) ?_
            refine lv_aload_n hx hb dX7_text_156 rfl (lv_at hl 0 rfl) ?_
            refine a_geti (σ := aG r139.2) (o := 109) (T := TX7) (N := 20) C wU_X7 hw rfl (by decide) rfl 3 (by decide) rfl wF_X7_48 dX7_text_157 ?_
            obtain ⟨r160, hr160, hM⟩ := h_b hM
            refine a_callV (σ' := aG r160) (v := none) (As := fun ad => [.int (5 : Int32), .int (gI r139.2 109 3)]) (rest := []) (o := 109) C hw (c_X7_wrong l hr160) k_X7_wrong wM_X7_85 ⟨⟨rfl, rfl⟩, ⟨Nat.le_of_ble_eq_true rfl, Nat.le_of_ble_eq_true rfl⟩⟩ rfl (by decide) rfl rfl rfl hl rfl (Nat.le_of_ble_eq_true rfl) dX7_text_160 ⟨Nat.zero_le _, Nat.zero_le _⟩ (fun H locs hw => ?_)
            refine lv_aload_n hx hb dX7_text_163 rfl (lv_at hl 0 rfl) ?_
            refine lv_aload_n hx hb dX7_text_164 rfl (lv_at hl 0 rfl) ?_
            refine a_geti (σ := aG r160) (o := 109) (T := TX7) (N := 20) C wU_X7 hw rfl (by decide) rfl 7 (by decide) rfl wF_X7_61 dX7_text_165 ?_
            refine a_puti (ty := .int) (σ := aG r160) (o := 109) (T := TX7) (N := 20) (ty0 := tyX7) C wU_X7 tyX7_ok nmX7 hw rfl (by decide) rfl 5 (by decide) rfl wF_X7_13 rfl (by decide +kernel) rfl rfl dX7_text_168 (fun H locs hw => ?_)
            have hw : aW D dA ad adV (aG (pI r160 109 5 (gI r160 109 7))) A s H locs := by rw [aG_PI] at hw; exact hw
            refine lv_aload_n hx hb dX7_text_171 rfl (lv_at hl 0 rfl) ?_
            obtain ⟨r172, hr172, hM⟩ := h_b hM
            refine a_callV (σ' := aG r172.2) (v := (some (.int r172.1))) (As := fun ad => []) (rest := []) (o := 109) C hw (c_X7_fine l hr172) k_X7_fine wM_X7_64 ⟨⟨rfl, rfl⟩, ⟨Nat.le_of_ble_eq_true rfl, Nat.le_of_ble_eq_true rfl⟩⟩ rfl (by decide) rfl rfl rfl hl rfl (Nat.le_of_ble_eq_true rfl) dX7_text_172 ⟨Nat.zero_le _, Nat.zero_le _⟩ (fun H locs hw => ?_)
            refine lv_if_ne (tgt := 186) hx hb dX7_text_175 (by decide) (fun hc => ?_) (fun hc => ?_)
            · replace hM := h_f hc hM
              refine lv_aload_n hx hb dX7_text_186 rfl (lv_at hl 0 rfl) ?_
              refine a_getp (q := 113) (σ := aG r172.2) (o := 109) (T := TX7) (N := 20) C wU_X7 hw rfl (by decide) rfl 10 (by decide) rfl wF_X7_23 (aG_P rfl rfl) dX7_text_187 ?_
              refine lv_iconst (v := (3 : Int32)) hx hb dX7_text_190 (by decide) ?_
              refine lv_bipush (v := (8 : Int32)) hx hb dX7_text_191 (by decide) ?_
              refine lv_iconst (v := (1 : Int32)) hx hb dX7_text_193 (by decide) ?_
              refine lv_aload_n hx hb dX7_text_194 rfl (lv_at hl 0 rfl) ?_
              refine a_getp (q := 113) (σ := aG r172.2) (o := 109) (T := TX7) (N := 20) C wU_X7 hw rfl (by decide) rfl 10 (by decide) rfl wF_X7_23 (aG_P rfl rfl) dX7_text_195 ?_
              refine lv_iconst (v := (1 : Int32)) hx hb dX7_text_198 (by decide) ?_
              refine a_iald (σ := aG r172.2) (o := 113) C hw rfl (aIn_v (by decide)) (show (1 : Int32).toNatClampNeg = 1 by decide) dX7_text_199 ?_
              refine lv_iadd hx hb dX7_text_200 ?_
              obtain ⟨r201, hr201, hM⟩ := h_b hM
              refine a_callS  (σ' := aG r201.2) (v := (some (.int r201.1))) (as := fun ad => [.int (8 : Int32), .int ((1 : Int32) + (gI r172.2 113 1))]) (rest := [.int (3 : Int32), .ref (ad 113)]) C hw (c_X7_less l hr201) k_X7_less wM_X7_94 ⟨⟨rfl, rfl⟩, ⟨Nat.le_of_ble_eq_true rfl, Nat.le_of_ble_eq_true rfl⟩⟩ rfl hl rfl (Nat.le_of_ble_eq_true rfl) dX7_text_201 ⟨Nat.zero_le _, Nat.zero_le _⟩ (fun H locs hw => ?_)
              refine a_iast (σ := aG r201.2) (o := 113) C hw rfl (aIn_v (by decide)) (show (3 : Int32).toNatClampNeg = 3 by decide) dX7_text_204 (fun H locs hw => ?_)
              have hw : aW D dA ad adV (aG (pI r201.2 113 3 r201.1)) A s H locs := by rw [aG_PI] at hw; exact hw
              refine lv_iconst (v := (0 : Int32)) hx hb dX7_text_205 (by decide) ?_
              refine lv_istore_n (lv' := [(2, .int (0 : Int32)), (0, .ref (ad 109)), (1, .int y1)]) hx hb dX7_text_206 rfl hl (by decide) rfl (fun ls hl => ?_)
              exact tl_X7_text_207 l C aF (y1) ((0 : Int32)) hM hw (lv_sub hl [1, 2, 0] rfl)
            · replace hM := h_t hc hM
              refine lv_aload_n hx hb dX7_text_178 rfl (lv_at hl 0 rfl) ?_
              refine a_geti (σ := aG r172.2) (o := 109) (T := TX7) (N := 20) C wU_X7 hw rfl (by decide) rfl 6 (by decide) rfl wF_X7_58 dX7_text_179 ?_
              refine lv_bipush (v := (10 : Int32)) hx hb dX7_text_182 (by decide) ?_
              refine lv_isub hx hb dX7_text_184 ?_
              cases h_e hM
              exact a_iret C hw dX7_text_185
      · replace hM := h_f hc hM
        refine lv_aload_n hx hb dX7_text_131 rfl (lv_at hl 0 rfl) ?_
        obtain ⟨r132, hr132, hM⟩ := h_b hM
        refine a_callV (σ' := aG r132) (v := none) (As := fun ad => []) (rest := []) (o := 109) C hw (c_X7_readsLine l hr132) k_X7_readsLine wM_X7_170 ⟨⟨rfl, rfl⟩, ⟨Nat.le_of_ble_eq_true rfl, Nat.le_of_ble_eq_true rfl⟩⟩ rfl (by decide) rfl rfl rfl hl rfl (Nat.le_of_ble_eq_true rfl) dX7_text_132 ⟨Nat.zero_le _, Nat.zero_le _⟩ (fun H locs hw => ?_)
        refine lv_goto (tgt := 116) hx hb dX7_text_135 (by decide) ?_
        exact ih (y1) hM hw (lv_sub hl [0, 1] rfl)
set_option maxHeartbeats 4000000 in
set_option maxRecDepth 100000 in
theorem c_X7_text (l : Launch) {x1 : Int32} {ι : iS} {res : Int32 × iS} (hM : m_X7_text x1 ι = some res) : aM l yX7_text cX7_text 3 (some .int) rm_X7_text (fun ad => [.ref (ad 109), .int x1]) (aG ι) (some (.int res.1)) (aG res.2) := by
  refine aM.of (by decide) (fun _ => Nat.le_of_ble_eq_true rfl) ?_
  intro p e s m args below meth c D dA ad adV A ls C hw hl
  have C : aX p m c cX7_text 3 s args aTs RX7 meth (some .int) := C
  have hx := C.1.1
  have hb := C.1.2.1
  have hml := C.1.2.2.1
  have hown := C.1.2.2.2.1
  have hts := C.1.2.2.2.2
  have hl : lv_has ls 3 [(0, .ref (ad 109)), (1, .int x1)] := hl
  unfold m_X7_text at hM
  refine lv_aload_n hx hb dX7_text_0 rfl (lv_at hl 0 rfl) ?_
  refine lv_iconst (v := (0 : Int32)) hx hb dX7_text_1 (by decide) ?_
  refine a_puti (ty := .int) (σ := aG ι) (o := 109) (T := TX7) (N := 20) (ty0 := tyX7) C wU_X7 tyX7_ok nmX7 hw rfl (by decide) rfl 0 (by decide) rfl wF_X7_42 rfl (by decide +kernel) rfl rfl dX7_text_2 (fun H locs hw => ?_)
  have hw : aW D dA ad adV (aG (pI ι 109 0 (0 : Int32))) A s H locs := by rw [aG_PI] at hw; exact hw
  refine lv_aload_n hx hb dX7_text_5 rfl (lv_at hl 0 rfl) ?_
  refine lv_iload_n hx hb dX7_text_6 rfl (lv_at hl 1 rfl) ?_
  refine lv_iconst (v := (0 : Int32)) hx hb dX7_text_7 (by decide) ?_
  refine lv_aload_n hx hb dX7_text_8 rfl (lv_at hl 0 rfl) ?_
  refine a_geti (σ := aG (pI ι 109 0 (0 : Int32))) (o := 109) (T := TX7) (N := 20) C wU_X7 hw rfl (by decide) rfl 2 (by decide) rfl wF_X7_45 dX7_text_9 ?_
  obtain ⟨r12, hr12, hM⟩ := h_b hM
  refine a_callS  (σ' := aG r12.2) (v := (some (.int r12.1))) (as := fun ad => [.int x1, .int (0 : Int32), .int (gI (pI ι 109 0 (0 : Int32)) 109 2)]) (rest := [.ref (ad 109)]) C hw (c_X7_in l hr12) k_X7_in wM_X7_81 ⟨⟨rfl, rfl⟩, ⟨Nat.le_of_ble_eq_true rfl, Nat.le_of_ble_eq_true rfl⟩⟩ rfl hl rfl (Nat.le_of_ble_eq_true rfl) dX7_text_12 ⟨Nat.zero_le _, Nat.zero_le _⟩ (fun H locs hw => ?_)
  refine lv_if_ne (tgt := 22) hx hb dX7_text_15 (by decide) (fun hc => ?_) (fun hc => ?_)
  · replace hM := h_f hc hM
    refine lv_iconst (v := (0 : Int32)) hx hb dX7_text_22 (by decide) ?_
    refine lv_iconst (v := (1 : Int32)) hx hb dX7_text_23 (by decide) ?_
    refine lv_iconst (v := (1 : Int32)) hx hb dX7_text_24 (by decide) ?_
    obtain ⟨r25, hr25, hM⟩ := h_b hM
    refine a_callV (σ' := aG r25.2) (v := (some (.int r25.1))) (As := fun ad => [.int (0 : Int32), .int (1 : Int32), .int (1 : Int32)]) (rest := []) (o := 109) C hw (c_X7_bad l hr25) k_X7_bad wM_X7_164 ⟨⟨rfl, rfl⟩, ⟨Nat.le_of_ble_eq_true rfl, Nat.le_of_ble_eq_true rfl⟩⟩ rfl (by decide) rfl rfl rfl hl rfl (Nat.le_of_ble_eq_true rfl) dX7_text_25 ⟨Nat.zero_le _, Nat.zero_le _⟩ (fun H locs hw => ?_)
    refine lv_if_eq (tgt := 33) hx hb dX7_text_28 (by decide) (fun hc => ?_) (fun hc => ?_)
    · replace hM := h_t hc hM
      refine lv_aload_n hx hb dX7_text_33 rfl (lv_at hl 0 rfl) ?_
      refine lv_iconst (v := (0 : Int32)) hx hb dX7_text_34 (by decide) ?_
      refine a_puti (ty := .int) (σ := aG r25.2) (o := 109) (T := TX7) (N := 20) (ty0 := tyX7) C wU_X7 tyX7_ok nmX7 hw rfl (by decide) rfl 2 (by decide) rfl wF_X7_45 rfl (by decide +kernel) rfl rfl dX7_text_35 (fun H locs hw => ?_)
      have hw : aW D dA ad adV (aG (pI r25.2 109 2 (0 : Int32))) A s H locs := by rw [aG_PI] at hw; exact hw
      refine lv_aload_n hx hb dX7_text_38 rfl (lv_at hl 0 rfl) ?_
      refine lv_iload_n hx hb dX7_text_39 rfl (lv_at hl 1 rfl) ?_
      refine a_puti (ty := .int) (σ := aG (pI r25.2 109 2 (0 : Int32))) (o := 109) (T := TX7) (N := 20) (ty0 := tyX7) C wU_X7 tyX7_ok nmX7 hw rfl (by decide) rfl 3 (by decide) rfl wF_X7_48 rfl (by decide +kernel) rfl rfl dX7_text_40 (fun H locs hw => ?_)
      have hw : aW D dA ad adV (aG (pI (pI r25.2 109 2 (0 : Int32)) 109 3 x1)) A s H locs := by rw [aG_PI] at hw; exact hw
      refine lv_aload_n hx hb dX7_text_43 rfl (lv_at hl 0 rfl) ?_
      refine lv_iconst (v := (0 : Int32)) hx hb dX7_text_44 (by decide) ?_
      refine a_puti (ty := .int) (σ := aG (pI (pI r25.2 109 2 (0 : Int32)) 109 3 x1)) (o := 109) (T := TX7) (N := 20) (ty0 := tyX7) C wU_X7 tyX7_ok nmX7 hw rfl (by decide) rfl 4 (by decide) rfl wF_X7_51 rfl (by decide +kernel) rfl rfl dX7_text_45 (fun H locs hw => ?_)
      have hw : aW D dA ad adV (aG (pI (pI (pI r25.2 109 2 (0 : Int32)) 109 3 x1) 109 4 (0 : Int32))) A s H locs := by rw [aG_PI] at hw; exact hw
      refine lv_aload_n hx hb dX7_text_48 rfl (lv_at hl 0 rfl) ?_
      refine lv_iconst (v := (0 : Int32)) hx hb dX7_text_49 (by decide) ?_
      refine a_puti (ty := .int) (σ := aG (pI (pI (pI r25.2 109 2 (0 : Int32)) 109 3 x1) 109 4 (0 : Int32))) (o := 109) (T := TX7) (N := 20) (ty0 := tyX7) C wU_X7 tyX7_ok nmX7 hw rfl (by decide) rfl 6 (by decide) rfl wF_X7_58 rfl (by decide +kernel) rfl rfl dX7_text_50 (fun H locs hw => ?_)
      have hw : aW D dA ad adV (aG (pI (pI (pI (pI r25.2 109 2 (0 : Int32)) 109 3 x1) 109 4 (0 : Int32)) 109 6 (0 : Int32))) A s H locs := by rw [aG_PI] at hw; exact hw
      refine lv_aload_n hx hb dX7_text_53 rfl (lv_at hl 0 rfl) ?_
      refine lv_iconst (v := (-1 : Int32)) hx hb dX7_text_54 (by decide) ?_
      refine a_puti (ty := .int) (σ := aG (pI (pI (pI (pI r25.2 109 2 (0 : Int32)) 109 3 x1) 109 4 (0 : Int32)) 109 6 (0 : Int32))) (o := 109) (T := TX7) (N := 20) (ty0 := tyX7) C wU_X7 tyX7_ok nmX7 hw rfl (by decide) rfl 7 (by decide) rfl wF_X7_61 rfl (by decide +kernel) rfl rfl dX7_text_55 (fun H locs hw => ?_)
      have hw : aW D dA ad adV (aG (pI (pI (pI (pI (pI r25.2 109 2 (0 : Int32)) 109 3 x1) 109 4 (0 : Int32)) 109 6 (0 : Int32)) 109 7 (-1 : Int32))) A s H locs := by rw [aG_PI] at hw; exact hw
      refine lv_aload_n hx hb dX7_text_58 rfl (lv_at hl 0 rfl) ?_
      refine lv_iconst (v := (0 : Int32)) hx hb dX7_text_59 (by decide) ?_
      refine a_puti (ty := .int) (σ := aG (pI (pI (pI (pI (pI r25.2 109 2 (0 : Int32)) 109 3 x1) 109 4 (0 : Int32)) 109 6 (0 : Int32)) 109 7 (-1 : Int32))) (o := 109) (T := TX7) (N := 20) (ty0 := tyX7) C wU_X7 tyX7_ok nmX7 hw rfl (by decide) rfl 13 (by decide) rfl wF_X7_101 rfl (by decide +kernel) rfl rfl dX7_text_60 (fun H locs hw => ?_)
      have hw : aW D dA ad adV (aG (pI (pI (pI (pI (pI (pI r25.2 109 2 (0 : Int32)) 109 3 x1) 109 4 (0 : Int32)) 109 6 (0 : Int32)) 109 7 (-1 : Int32)) 109 13 (0 : Int32))) A s H locs := by rw [aG_PI] at hw; exact hw
      refine lv_aload_n hx hb dX7_text_63 rfl (lv_at hl 0 rfl) ?_
      refine lv_iconst (v := (0 : Int32)) hx hb dX7_text_64 (by decide) ?_
      refine a_puti (ty := .int) (σ := aG (pI (pI (pI (pI (pI (pI r25.2 109 2 (0 : Int32)) 109 3 x1) 109 4 (0 : Int32)) 109 6 (0 : Int32)) 109 7 (-1 : Int32)) 109 13 (0 : Int32))) (o := 109) (T := TX7) (N := 20) (ty0 := tyX7) C wU_X7 tyX7_ok nmX7 hw rfl (by decide) rfl 14 (by decide) rfl wF_X7_104 rfl (by decide +kernel) rfl rfl dX7_text_65 (fun H locs hw => ?_)
      have hw : aW D dA ad adV (aG (pI (pI (pI (pI (pI (pI (pI r25.2 109 2 (0 : Int32)) 109 3 x1) 109 4 (0 : Int32)) 109 6 (0 : Int32)) 109 7 (-1 : Int32)) 109 13 (0 : Int32)) 109 14 (0 : Int32))) A s H locs := by rw [aG_PI] at hw; exact hw
      refine lv_aload_n hx hb dX7_text_68 rfl (lv_at hl 0 rfl) ?_
      refine lv_iconst (v := (0 : Int32)) hx hb dX7_text_69 (by decide) ?_
      refine a_puti (ty := .int) (σ := aG (pI (pI (pI (pI (pI (pI (pI r25.2 109 2 (0 : Int32)) 109 3 x1) 109 4 (0 : Int32)) 109 6 (0 : Int32)) 109 7 (-1 : Int32)) 109 13 (0 : Int32)) 109 14 (0 : Int32))) (o := 109) (T := TX7) (N := 20) (ty0 := tyX7) C wU_X7 tyX7_ok nmX7 hw rfl (by decide) rfl 15 (by decide) rfl wF_X7_139 rfl (by decide +kernel) rfl rfl dX7_text_70 (fun H locs hw => ?_)
      have hw : aW D dA ad adV (aG (pI (pI (pI (pI (pI (pI (pI (pI r25.2 109 2 (0 : Int32)) 109 3 x1) 109 4 (0 : Int32)) 109 6 (0 : Int32)) 109 7 (-1 : Int32)) 109 13 (0 : Int32)) 109 14 (0 : Int32)) 109 15 (0 : Int32))) A s H locs := by rw [aG_PI] at hw; exact hw
      refine lv_aload_n hx hb dX7_text_73 rfl (lv_at hl 0 rfl) ?_
      refine a_getp (q := 113) (σ := aG (pI (pI (pI (pI (pI (pI (pI (pI r25.2 109 2 (0 : Int32)) 109 3 x1) 109 4 (0 : Int32)) 109 6 (0 : Int32)) 109 7 (-1 : Int32)) 109 13 (0 : Int32)) 109 14 (0 : Int32)) 109 15 (0 : Int32))) (o := 109) (T := TX7) (N := 20) C wU_X7 hw rfl (by decide) rfl 10 (by decide) rfl wF_X7_23 (aG_P rfl rfl) dX7_text_74 ?_
      obtain ⟨r77, hr77, hM⟩ := h_b hM
      refine a_callS  (σ' := aG r77) (v := none) (as := fun ad => [.ref (ad 113)]) (rest := []) C hw (c_X7_begins l (rfl) hr77) k_X7_begins wM_X7_38 ⟨⟨rfl, rfl⟩, ⟨Nat.le_of_ble_eq_true rfl, Nat.le_of_ble_eq_true rfl⟩⟩ rfl hl rfl (Nat.le_of_ble_eq_true rfl) dX7_text_77 ⟨Nat.zero_le _, Nat.zero_le _⟩ (fun H locs hw => ?_)
      refine lv_aload_n hx hb dX7_text_80 rfl (lv_at hl 0 rfl) ?_
      refine a_ldcS (tx := "traits") (q := 1000000) C hw (by decide) dX7_text_81 ?_
      obtain ⟨r83, hr83, hM⟩ := h_b hM
      refine a_callV (σ' := aG r83.2) (v := (some (.int r83.1))) (As := fun ad => [.ref (ad 1000000)]) (rest := []) (o := 109) C hw (c_X7_takes l (by decide) hr83) k_X7_takes wM_X7_125 ⟨⟨rfl, rfl⟩, ⟨Nat.le_of_ble_eq_true rfl, Nat.le_of_ble_eq_true rfl⟩⟩ rfl (by decide) rfl rfl rfl hl rfl (Nat.le_of_ble_eq_true rfl) dX7_text_83 ⟨Nat.zero_le _, Nat.zero_le _⟩ (fun H locs hw => ?_)
      refine lv_if_ne (tgt := 98) hx hb dX7_text_86 (by decide) (fun hc => ?_) (fun hc => ?_)
      · replace hM := h_f hc hM
        refine lv_aload_n hx hb dX7_text_98 rfl (lv_at hl 0 rfl) ?_
        refine a_getp (q := 113) (σ := aG r83.2) (o := 109) (T := TX7) (N := 20) C wU_X7 hw rfl (by decide) rfl 10 (by decide) rfl wF_X7_23 (aG_P rfl rfl) dX7_text_99 ?_
        refine lv_iconst (v := (0 : Int32)) hx hb dX7_text_102 (by decide) ?_
        refine lv_aload_n hx hb dX7_text_103 rfl (lv_at hl 0 rfl) ?_
        refine lv_iconst (v := (1 : Int32)) hx hb dX7_text_104 (by decide) ?_
        refine lv_iconst (v := (5 : Int32)) hx hb dX7_text_105 (by decide) ?_
        obtain ⟨r106, hr106, hM⟩ := h_b hM
        refine a_callV (σ' := aG r106.2) (v := (some (.int r106.1))) (As := fun ad => [.int (1 : Int32), .int (5 : Int32)]) (rest := [.int (0 : Int32), .ref (ad 113)]) (o := 109) C hw (c_X7_number l hr106) k_X7_number wM_X7_98 ⟨⟨rfl, rfl⟩, ⟨Nat.le_of_ble_eq_true rfl, Nat.le_of_ble_eq_true rfl⟩⟩ rfl (by decide) rfl rfl rfl hl rfl (Nat.le_of_ble_eq_true rfl) dX7_text_106 ⟨Nat.zero_le _, Nat.zero_le _⟩ (fun H locs hw => ?_)
        refine a_iast (σ := aG r106.2) (o := 113) C hw rfl (aIn_v (by decide)) (show (0 : Int32).toNatClampNeg = 0 by decide) dX7_text_109 (fun H locs hw => ?_)
        have hw : aW D dA ad adV (aG (pI r106.2 113 0 r106.1)) A s H locs := by rw [aG_PI] at hw; exact hw
        refine lv_aload_n hx hb dX7_text_110 rfl (lv_at hl 0 rfl) ?_
        refine lv_bipush (v := (59 : Int32)) hx hb dX7_text_111 (by decide) ?_
        obtain ⟨r113, hr113, hM⟩ := h_b hM
        refine a_callV (σ' := aG r113) (v := none) (As := fun ad => [.int (59 : Int32)]) (rest := []) (o := 109) C hw (c_X7_must l hr113) k_X7_must wM_X7_120 ⟨⟨rfl, rfl⟩, ⟨Nat.le_of_ble_eq_true rfl, Nat.le_of_ble_eq_true rfl⟩⟩ rfl (by decide) rfl rfl rfl hl rfl (Nat.le_of_ble_eq_true rfl) dX7_text_113 ⟨Nat.zero_le _, Nat.zero_le _⟩ (fun H locs hw => ?_)
        exact tl_X7_text_116 l C aF (x1) hM hw (lv_sub hl [0, 1] rfl)
      · replace hM := h_t hc hM
        refine lv_aload_n hx hb dX7_text_89 rfl (lv_at hl 0 rfl) ?_
        refine lv_iconst (v := (1 : Int32)) hx hb dX7_text_90 (by decide) ?_
        refine lv_aload_n hx hb dX7_text_91 rfl (lv_at hl 0 rfl) ?_
        refine a_geti (σ := aG r83.2) (o := 109) (T := TX7) (N := 20) C wU_X7 hw rfl (by decide) rfl 4 (by decide) rfl wF_X7_51 dX7_text_92 ?_
        obtain ⟨r95, hr95, hM⟩ := h_b hM
        refine a_callV (σ' := aG r95) (v := none) (As := fun ad => [.int (1 : Int32), .int (gI r83.2 109 4)]) (rest := []) (o := 109) C hw (c_X7_wrong l hr95) k_X7_wrong wM_X7_85 ⟨⟨rfl, rfl⟩, ⟨Nat.le_of_ble_eq_true rfl, Nat.le_of_ble_eq_true rfl⟩⟩ rfl (by decide) rfl rfl rfl hl rfl (Nat.le_of_ble_eq_true rfl) dX7_text_95 ⟨Nat.zero_le _, Nat.zero_le _⟩ (fun H locs hw => ?_)
        refine lv_aload_n hx hb dX7_text_98 rfl (lv_at hl 0 rfl) ?_
        refine a_getp (q := 113) (σ := aG r95) (o := 109) (T := TX7) (N := 20) C wU_X7 hw rfl (by decide) rfl 10 (by decide) rfl wF_X7_23 (aG_P rfl rfl) dX7_text_99 ?_
        refine lv_iconst (v := (0 : Int32)) hx hb dX7_text_102 (by decide) ?_
        refine lv_aload_n hx hb dX7_text_103 rfl (lv_at hl 0 rfl) ?_
        refine lv_iconst (v := (1 : Int32)) hx hb dX7_text_104 (by decide) ?_
        refine lv_iconst (v := (5 : Int32)) hx hb dX7_text_105 (by decide) ?_
        obtain ⟨r106, hr106, hM⟩ := h_b hM
        refine a_callV (σ' := aG r106.2) (v := (some (.int r106.1))) (As := fun ad => [.int (1 : Int32), .int (5 : Int32)]) (rest := [.int (0 : Int32), .ref (ad 113)]) (o := 109) C hw (c_X7_number l hr106) k_X7_number wM_X7_98 ⟨⟨rfl, rfl⟩, ⟨Nat.le_of_ble_eq_true rfl, Nat.le_of_ble_eq_true rfl⟩⟩ rfl (by decide) rfl rfl rfl hl rfl (Nat.le_of_ble_eq_true rfl) dX7_text_106 ⟨Nat.zero_le _, Nat.zero_le _⟩ (fun H locs hw => ?_)
        refine a_iast (σ := aG r106.2) (o := 113) C hw rfl (aIn_v (by decide)) (show (0 : Int32).toNatClampNeg = 0 by decide) dX7_text_109 (fun H locs hw => ?_)
        have hw : aW D dA ad adV (aG (pI r106.2 113 0 r106.1)) A s H locs := by rw [aG_PI] at hw; exact hw
        refine lv_aload_n hx hb dX7_text_110 rfl (lv_at hl 0 rfl) ?_
        refine lv_bipush (v := (59 : Int32)) hx hb dX7_text_111 (by decide) ?_
        obtain ⟨r113, hr113, hM⟩ := h_b hM
        refine a_callV (σ' := aG r113) (v := none) (As := fun ad => [.int (59 : Int32)]) (rest := []) (o := 109) C hw (c_X7_must l hr113) k_X7_must wM_X7_120 ⟨⟨rfl, rfl⟩, ⟨Nat.le_of_ble_eq_true rfl, Nat.le_of_ble_eq_true rfl⟩⟩ rfl (by decide) rfl rfl rfl hl rfl (Nat.le_of_ble_eq_true rfl) dX7_text_113 ⟨Nat.zero_le _, Nat.zero_le _⟩ (fun H locs hw => ?_)
        exact tl_X7_text_116 l C aF (x1) hM hw (lv_sub hl [0, 1] rfl)
    · replace hM := h_f hc hM
      refine lv_iconst (v := (0 : Int32)) hx hb dX7_text_31 (by decide) ?_
      cases h_e hM
      exact a_iret C hw dX7_text_32
  · replace hM := h_t hc hM
    refine lv_iconst (v := (1 : Int32)) hx hb dX7_text_18 (by decide) ?_
    refine lv_goto (tgt := 23) hx hb dX7_text_19 (by decide) ?_
    refine lv_iconst (v := (1 : Int32)) hx hb dX7_text_23 (by decide) ?_
    refine lv_iconst (v := (1 : Int32)) hx hb dX7_text_24 (by decide) ?_
    obtain ⟨r25, hr25, hM⟩ := h_b hM
    refine a_callV (σ' := aG r25.2) (v := (some (.int r25.1))) (As := fun ad => [.int (1 : Int32), .int (1 : Int32), .int (1 : Int32)]) (rest := []) (o := 109) C hw (c_X7_bad l hr25) k_X7_bad wM_X7_164 ⟨⟨rfl, rfl⟩, ⟨Nat.le_of_ble_eq_true rfl, Nat.le_of_ble_eq_true rfl⟩⟩ rfl (by decide) rfl rfl rfl hl rfl (Nat.le_of_ble_eq_true rfl) dX7_text_25 ⟨Nat.zero_le _, Nat.zero_le _⟩ (fun H locs hw => ?_)
    refine lv_if_eq (tgt := 33) hx hb dX7_text_28 (by decide) (fun hc => ?_) (fun hc => ?_)
    · replace hM := h_t hc hM
      refine lv_aload_n hx hb dX7_text_33 rfl (lv_at hl 0 rfl) ?_
      refine lv_iconst (v := (0 : Int32)) hx hb dX7_text_34 (by decide) ?_
      refine a_puti (ty := .int) (σ := aG r25.2) (o := 109) (T := TX7) (N := 20) (ty0 := tyX7) C wU_X7 tyX7_ok nmX7 hw rfl (by decide) rfl 2 (by decide) rfl wF_X7_45 rfl (by decide +kernel) rfl rfl dX7_text_35 (fun H locs hw => ?_)
      have hw : aW D dA ad adV (aG (pI r25.2 109 2 (0 : Int32))) A s H locs := by rw [aG_PI] at hw; exact hw
      refine lv_aload_n hx hb dX7_text_38 rfl (lv_at hl 0 rfl) ?_
      refine lv_iload_n hx hb dX7_text_39 rfl (lv_at hl 1 rfl) ?_
      refine a_puti (ty := .int) (σ := aG (pI r25.2 109 2 (0 : Int32))) (o := 109) (T := TX7) (N := 20) (ty0 := tyX7) C wU_X7 tyX7_ok nmX7 hw rfl (by decide) rfl 3 (by decide) rfl wF_X7_48 rfl (by decide +kernel) rfl rfl dX7_text_40 (fun H locs hw => ?_)
      have hw : aW D dA ad adV (aG (pI (pI r25.2 109 2 (0 : Int32)) 109 3 x1)) A s H locs := by rw [aG_PI] at hw; exact hw
      refine lv_aload_n hx hb dX7_text_43 rfl (lv_at hl 0 rfl) ?_
      refine lv_iconst (v := (0 : Int32)) hx hb dX7_text_44 (by decide) ?_
      refine a_puti (ty := .int) (σ := aG (pI (pI r25.2 109 2 (0 : Int32)) 109 3 x1)) (o := 109) (T := TX7) (N := 20) (ty0 := tyX7) C wU_X7 tyX7_ok nmX7 hw rfl (by decide) rfl 4 (by decide) rfl wF_X7_51 rfl (by decide +kernel) rfl rfl dX7_text_45 (fun H locs hw => ?_)
      have hw : aW D dA ad adV (aG (pI (pI (pI r25.2 109 2 (0 : Int32)) 109 3 x1) 109 4 (0 : Int32))) A s H locs := by rw [aG_PI] at hw; exact hw
      refine lv_aload_n hx hb dX7_text_48 rfl (lv_at hl 0 rfl) ?_
      refine lv_iconst (v := (0 : Int32)) hx hb dX7_text_49 (by decide) ?_
      refine a_puti (ty := .int) (σ := aG (pI (pI (pI r25.2 109 2 (0 : Int32)) 109 3 x1) 109 4 (0 : Int32))) (o := 109) (T := TX7) (N := 20) (ty0 := tyX7) C wU_X7 tyX7_ok nmX7 hw rfl (by decide) rfl 6 (by decide) rfl wF_X7_58 rfl (by decide +kernel) rfl rfl dX7_text_50 (fun H locs hw => ?_)
      have hw : aW D dA ad adV (aG (pI (pI (pI (pI r25.2 109 2 (0 : Int32)) 109 3 x1) 109 4 (0 : Int32)) 109 6 (0 : Int32))) A s H locs := by rw [aG_PI] at hw; exact hw
      refine lv_aload_n hx hb dX7_text_53 rfl (lv_at hl 0 rfl) ?_
      refine lv_iconst (v := (-1 : Int32)) hx hb dX7_text_54 (by decide) ?_
      refine a_puti (ty := .int) (σ := aG (pI (pI (pI (pI r25.2 109 2 (0 : Int32)) 109 3 x1) 109 4 (0 : Int32)) 109 6 (0 : Int32))) (o := 109) (T := TX7) (N := 20) (ty0 := tyX7) C wU_X7 tyX7_ok nmX7 hw rfl (by decide) rfl 7 (by decide) rfl wF_X7_61 rfl (by decide +kernel) rfl rfl dX7_text_55 (fun H locs hw => ?_)
      have hw : aW D dA ad adV (aG (pI (pI (pI (pI (pI r25.2 109 2 (0 : Int32)) 109 3 x1) 109 4 (0 : Int32)) 109 6 (0 : Int32)) 109 7 (-1 : Int32))) A s H locs := by rw [aG_PI] at hw; exact hw
      refine lv_aload_n hx hb dX7_text_58 rfl (lv_at hl 0 rfl) ?_
      refine lv_iconst (v := (0 : Int32)) hx hb dX7_text_59 (by decide) ?_
      refine a_puti (ty := .int) (σ := aG (pI (pI (pI (pI (pI r25.2 109 2 (0 : Int32)) 109 3 x1) 109 4 (0 : Int32)) 109 6 (0 : Int32)) 109 7 (-1 : Int32))) (o := 109) (T := TX7) (N := 20) (ty0 := tyX7) C wU_X7 tyX7_ok nmX7 hw rfl (by decide) rfl 13 (by decide) rfl wF_X7_101 rfl (by decide +kernel) rfl rfl dX7_text_60 (fun H locs hw => ?_)
      have hw : aW D dA ad adV (aG (pI (pI (pI (pI (pI (pI r25.2 109 2 (0 : Int32)) 109 3 x1) 109 4 (0 : Int32)) 109 6 (0 : Int32)) 109 7 (-1 : Int32)) 109 13 (0 : Int32))) A s H locs := by rw [aG_PI] at hw; exact hw
      refine lv_aload_n hx hb dX7_text_63 rfl (lv_at hl 0 rfl) ?_
      refine lv_iconst (v := (0 : Int32)) hx hb dX7_text_64 (by decide) ?_
      refine a_puti (ty := .int) (σ := aG (pI (pI (pI (pI (pI (pI r25.2 109 2 (0 : Int32)) 109 3 x1) 109 4 (0 : Int32)) 109 6 (0 : Int32)) 109 7 (-1 : Int32)) 109 13 (0 : Int32))) (o := 109) (T := TX7) (N := 20) (ty0 := tyX7) C wU_X7 tyX7_ok nmX7 hw rfl (by decide) rfl 14 (by decide) rfl wF_X7_104 rfl (by decide +kernel) rfl rfl dX7_text_65 (fun H locs hw => ?_)
      have hw : aW D dA ad adV (aG (pI (pI (pI (pI (pI (pI (pI r25.2 109 2 (0 : Int32)) 109 3 x1) 109 4 (0 : Int32)) 109 6 (0 : Int32)) 109 7 (-1 : Int32)) 109 13 (0 : Int32)) 109 14 (0 : Int32))) A s H locs := by rw [aG_PI] at hw; exact hw
      refine lv_aload_n hx hb dX7_text_68 rfl (lv_at hl 0 rfl) ?_
      refine lv_iconst (v := (0 : Int32)) hx hb dX7_text_69 (by decide) ?_
      refine a_puti (ty := .int) (σ := aG (pI (pI (pI (pI (pI (pI (pI r25.2 109 2 (0 : Int32)) 109 3 x1) 109 4 (0 : Int32)) 109 6 (0 : Int32)) 109 7 (-1 : Int32)) 109 13 (0 : Int32)) 109 14 (0 : Int32))) (o := 109) (T := TX7) (N := 20) (ty0 := tyX7) C wU_X7 tyX7_ok nmX7 hw rfl (by decide) rfl 15 (by decide) rfl wF_X7_139 rfl (by decide +kernel) rfl rfl dX7_text_70 (fun H locs hw => ?_)
      have hw : aW D dA ad adV (aG (pI (pI (pI (pI (pI (pI (pI (pI r25.2 109 2 (0 : Int32)) 109 3 x1) 109 4 (0 : Int32)) 109 6 (0 : Int32)) 109 7 (-1 : Int32)) 109 13 (0 : Int32)) 109 14 (0 : Int32)) 109 15 (0 : Int32))) A s H locs := by rw [aG_PI] at hw; exact hw
      refine lv_aload_n hx hb dX7_text_73 rfl (lv_at hl 0 rfl) ?_
      refine a_getp (q := 113) (σ := aG (pI (pI (pI (pI (pI (pI (pI (pI r25.2 109 2 (0 : Int32)) 109 3 x1) 109 4 (0 : Int32)) 109 6 (0 : Int32)) 109 7 (-1 : Int32)) 109 13 (0 : Int32)) 109 14 (0 : Int32)) 109 15 (0 : Int32))) (o := 109) (T := TX7) (N := 20) C wU_X7 hw rfl (by decide) rfl 10 (by decide) rfl wF_X7_23 (aG_P rfl rfl) dX7_text_74 ?_
      obtain ⟨r77, hr77, hM⟩ := h_b hM
      refine a_callS  (σ' := aG r77) (v := none) (as := fun ad => [.ref (ad 113)]) (rest := []) C hw (c_X7_begins l (rfl) hr77) k_X7_begins wM_X7_38 ⟨⟨rfl, rfl⟩, ⟨Nat.le_of_ble_eq_true rfl, Nat.le_of_ble_eq_true rfl⟩⟩ rfl hl rfl (Nat.le_of_ble_eq_true rfl) dX7_text_77 ⟨Nat.zero_le _, Nat.zero_le _⟩ (fun H locs hw => ?_)
      refine lv_aload_n hx hb dX7_text_80 rfl (lv_at hl 0 rfl) ?_
      refine a_ldcS (tx := "traits") (q := 1000000) C hw (by decide) dX7_text_81 ?_
      obtain ⟨r83, hr83, hM⟩ := h_b hM
      refine a_callV (σ' := aG r83.2) (v := (some (.int r83.1))) (As := fun ad => [.ref (ad 1000000)]) (rest := []) (o := 109) C hw (c_X7_takes l (by decide) hr83) k_X7_takes wM_X7_125 ⟨⟨rfl, rfl⟩, ⟨Nat.le_of_ble_eq_true rfl, Nat.le_of_ble_eq_true rfl⟩⟩ rfl (by decide) rfl rfl rfl hl rfl (Nat.le_of_ble_eq_true rfl) dX7_text_83 ⟨Nat.zero_le _, Nat.zero_le _⟩ (fun H locs hw => ?_)
      refine lv_if_ne (tgt := 98) hx hb dX7_text_86 (by decide) (fun hc => ?_) (fun hc => ?_)
      · replace hM := h_f hc hM
        refine lv_aload_n hx hb dX7_text_98 rfl (lv_at hl 0 rfl) ?_
        refine a_getp (q := 113) (σ := aG r83.2) (o := 109) (T := TX7) (N := 20) C wU_X7 hw rfl (by decide) rfl 10 (by decide) rfl wF_X7_23 (aG_P rfl rfl) dX7_text_99 ?_
        refine lv_iconst (v := (0 : Int32)) hx hb dX7_text_102 (by decide) ?_
        refine lv_aload_n hx hb dX7_text_103 rfl (lv_at hl 0 rfl) ?_
        refine lv_iconst (v := (1 : Int32)) hx hb dX7_text_104 (by decide) ?_
        refine lv_iconst (v := (5 : Int32)) hx hb dX7_text_105 (by decide) ?_
        obtain ⟨r106, hr106, hM⟩ := h_b hM
        refine a_callV (σ' := aG r106.2) (v := (some (.int r106.1))) (As := fun ad => [.int (1 : Int32), .int (5 : Int32)]) (rest := [.int (0 : Int32), .ref (ad 113)]) (o := 109) C hw (c_X7_number l hr106) k_X7_number wM_X7_98 ⟨⟨rfl, rfl⟩, ⟨Nat.le_of_ble_eq_true rfl, Nat.le_of_ble_eq_true rfl⟩⟩ rfl (by decide) rfl rfl rfl hl rfl (Nat.le_of_ble_eq_true rfl) dX7_text_106 ⟨Nat.zero_le _, Nat.zero_le _⟩ (fun H locs hw => ?_)
        refine a_iast (σ := aG r106.2) (o := 113) C hw rfl (aIn_v (by decide)) (show (0 : Int32).toNatClampNeg = 0 by decide) dX7_text_109 (fun H locs hw => ?_)
        have hw : aW D dA ad adV (aG (pI r106.2 113 0 r106.1)) A s H locs := by rw [aG_PI] at hw; exact hw
        refine lv_aload_n hx hb dX7_text_110 rfl (lv_at hl 0 rfl) ?_
        refine lv_bipush (v := (59 : Int32)) hx hb dX7_text_111 (by decide) ?_
        obtain ⟨r113, hr113, hM⟩ := h_b hM
        refine a_callV (σ' := aG r113) (v := none) (As := fun ad => [.int (59 : Int32)]) (rest := []) (o := 109) C hw (c_X7_must l hr113) k_X7_must wM_X7_120 ⟨⟨rfl, rfl⟩, ⟨Nat.le_of_ble_eq_true rfl, Nat.le_of_ble_eq_true rfl⟩⟩ rfl (by decide) rfl rfl rfl hl rfl (Nat.le_of_ble_eq_true rfl) dX7_text_113 ⟨Nat.zero_le _, Nat.zero_le _⟩ (fun H locs hw => ?_)
        exact tl_X7_text_116 l C aF (x1) hM hw (lv_sub hl [0, 1] rfl)
      · replace hM := h_t hc hM
        refine lv_aload_n hx hb dX7_text_89 rfl (lv_at hl 0 rfl) ?_
        refine lv_iconst (v := (1 : Int32)) hx hb dX7_text_90 (by decide) ?_
        refine lv_aload_n hx hb dX7_text_91 rfl (lv_at hl 0 rfl) ?_
        refine a_geti (σ := aG r83.2) (o := 109) (T := TX7) (N := 20) C wU_X7 hw rfl (by decide) rfl 4 (by decide) rfl wF_X7_51 dX7_text_92 ?_
        obtain ⟨r95, hr95, hM⟩ := h_b hM
        refine a_callV (σ' := aG r95) (v := none) (As := fun ad => [.int (1 : Int32), .int (gI r83.2 109 4)]) (rest := []) (o := 109) C hw (c_X7_wrong l hr95) k_X7_wrong wM_X7_85 ⟨⟨rfl, rfl⟩, ⟨Nat.le_of_ble_eq_true rfl, Nat.le_of_ble_eq_true rfl⟩⟩ rfl (by decide) rfl rfl rfl hl rfl (Nat.le_of_ble_eq_true rfl) dX7_text_95 ⟨Nat.zero_le _, Nat.zero_le _⟩ (fun H locs hw => ?_)
        refine lv_aload_n hx hb dX7_text_98 rfl (lv_at hl 0 rfl) ?_
        refine a_getp (q := 113) (σ := aG r95) (o := 109) (T := TX7) (N := 20) C wU_X7 hw rfl (by decide) rfl 10 (by decide) rfl wF_X7_23 (aG_P rfl rfl) dX7_text_99 ?_
        refine lv_iconst (v := (0 : Int32)) hx hb dX7_text_102 (by decide) ?_
        refine lv_aload_n hx hb dX7_text_103 rfl (lv_at hl 0 rfl) ?_
        refine lv_iconst (v := (1 : Int32)) hx hb dX7_text_104 (by decide) ?_
        refine lv_iconst (v := (5 : Int32)) hx hb dX7_text_105 (by decide) ?_
        obtain ⟨r106, hr106, hM⟩ := h_b hM
        refine a_callV (σ' := aG r106.2) (v := (some (.int r106.1))) (As := fun ad => [.int (1 : Int32), .int (5 : Int32)]) (rest := [.int (0 : Int32), .ref (ad 113)]) (o := 109) C hw (c_X7_number l hr106) k_X7_number wM_X7_98 ⟨⟨rfl, rfl⟩, ⟨Nat.le_of_ble_eq_true rfl, Nat.le_of_ble_eq_true rfl⟩⟩ rfl (by decide) rfl rfl rfl hl rfl (Nat.le_of_ble_eq_true rfl) dX7_text_106 ⟨Nat.zero_le _, Nat.zero_le _⟩ (fun H locs hw => ?_)
        refine a_iast (σ := aG r106.2) (o := 113) C hw rfl (aIn_v (by decide)) (show (0 : Int32).toNatClampNeg = 0 by decide) dX7_text_109 (fun H locs hw => ?_)
        have hw : aW D dA ad adV (aG (pI r106.2 113 0 r106.1)) A s H locs := by rw [aG_PI] at hw; exact hw
        refine lv_aload_n hx hb dX7_text_110 rfl (lv_at hl 0 rfl) ?_
        refine lv_bipush (v := (59 : Int32)) hx hb dX7_text_111 (by decide) ?_
        obtain ⟨r113, hr113, hM⟩ := h_b hM
        refine a_callV (σ' := aG r113) (v := none) (As := fun ad => [.int (59 : Int32)]) (rest := []) (o := 109) C hw (c_X7_must l hr113) k_X7_must wM_X7_120 ⟨⟨rfl, rfl⟩, ⟨Nat.le_of_ble_eq_true rfl, Nat.le_of_ble_eq_true rfl⟩⟩ rfl (by decide) rfl rfl rfl hl rfl (Nat.le_of_ble_eq_true rfl) dX7_text_113 ⟨Nat.zero_le _, Nat.zero_le _⟩ (fun H locs hw => ?_)
        exact tl_X7_text_116 l C aF (x1) hM hw (lv_sub hl [0, 1] rfl)
    · replace hM := h_f hc hM
      refine lv_iconst (v := (0 : Int32)) hx hb dX7_text_31 (by decide) ?_
      cases h_e hM
      exact a_iret C hw dX7_text_32
