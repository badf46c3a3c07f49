def m_X2_valueOf (o : Nat) (x1 : Int32) (x2 : Int32) (ι : iS) : Option (Int32 × iS) := if aIn ((x1 * 5) + x2) 80 = true then some ((gI ι (o + 1) ((x1 * 5) + x2).toNatClampNeg), ι) else none
def m_X2_setValue (o : Nat) (x1 : Int32) (x2 : Int32) (x3 : Int32) (ι : iS) : Option (iS) := if aIn ((x1 * 5) + x2) 80 = true then some (pI ι (o + 1) ((x1 * 5) + x2).toNatClampNeg x3) else none
def m_X2_matchOf (o : Nat) (x1 : Int32) (x2 : Int32) (ι : iS) : Option (Int32 × iS) := if x2 = 0 then if aIn x1 16 = true then some ((gI ι (o + 7) x1.toNatClampNeg), ι) else none else if aIn x1 16 = true then some ((gI ι (o + 8) x1.toNatClampNeg), ι) else none
def l_X2_placeOf_2 (o : Nat) : Nat → Int32 → Int32 → iS → Option (Int32 × iS)
  | 0, _, _, _ => none
  | n + 1, y1, y2, ι => if (gI ι o 2) ≤ y2 then some ((-1), ι) else if aIn y2 8 = true then if (gI ι (o + 5) y2.toNatClampNeg) = y1 then some (y2, ι) else l_X2_placeOf_2 o n y1 (y2 + 1) ι else none
def m_X2_placeOf (o : Nat) (x1 : Int32) (ι : iS) : Option (Int32 × iS) := l_X2_placeOf_2 o aF x1 0 ι
def rm_X2_valueOf : Room := { frames := 0, cells := 0, slots := 0, locals := 0 }
theorem k_X2_valueOf : aCal RX2 yX2_valueOf cX2_valueOf 3 (some .int) 2 := ⟨wI_yX2_valueOf, wE_yX2_valueOf, wZ_X2, wC_yX2_valueOf, by decide +kernel⟩
set_option maxHeartbeats 4000000 in
set_option maxRecDepth 100000 in
theorem c_X2_valueOf (l : Launch) {o : Nat} {x1 : Int32} {x2 : Int32} (ho : aLin o = true) {ι : iS} {res : Int32 × iS} (hM : m_X2_valueOf o x1 x2 ι = some res) : aM l yX2_valueOf cX2_valueOf 3 (some .int) rm_X2_valueOf (fun ad => [.ref (ad o), .int x1, .int x2]) (aG ι) (some (.int res.1)) (aG res.2) := by
  refine aM.of (by decide) (fun _ => Nat.le_of_ble_eq_true rfl) ?_
  intro p e s m args below meth c D dA ad adV A ls C hw hl
  have C : aX p m c cX2_valueOf 3 s args aTs RX2 meth (some .int) := C
  have hx := C.1.1
  have hb := C.1.2.1
  have hml := C.1.2.2.1
  have hown := C.1.2.2.2.1
  have hts := C.1.2.2.2.2
  have hl : lv_has ls 3 [(0, .ref (ad o)), (1, .int x1), (2, .int x2)] := hl
  unfold m_X2_valueOf at hM
  refine lv_aload_n hx hb dX2_valueOf_0 rfl (lv_at hl 0 rfl) ?_
  refine a_getp (q := (o + 1)) (σ := aG ι) (o := o) (T := TX2) (N := 11) C wU_X2 hw (aLin_k ho).1 (by decide) rfl 3 (by decide) rfl wF_X2_21 (aLin_p ho ι 0 (by decide)) dX2_valueOf_1 ?_
  refine lv_iload_n hx hb dX2_valueOf_4 rfl (lv_at hl 1 rfl) ?_
  refine lv_iconst (v := 5) hx hb dX2_valueOf_5 (by decide) ?_
  refine lv_imul hx hb dX2_valueOf_6 ?_
  refine lv_iload_n hx hb dX2_valueOf_7 rfl (lv_at hl 2 rfl) ?_
  refine lv_iadd hx hb dX2_valueOf_8 ?_
  obtain ⟨hi, hM⟩ := h_i hM
  refine a_iald (σ := aG ι) (o := (o + 1)) C hw (aLin_k ho).2.1 hi rfl dX2_valueOf_9 ?_
  cases h_e hM
  exact a_iret C hw dX2_valueOf_10
def rm_X2_setValue : Room := { frames := 0, cells := 0, slots := 0, locals := 0 }
theorem k_X2_setValue : aCal RX2 yX2_setValue cX2_setValue 4 none 3 := ⟨wI_yX2_setValue, wE_yX2_setValue, wZ_X2, wC_yX2_setValue, by decide +kernel⟩
set_option maxHeartbeats 4000000 in
set_option maxRecDepth 100000 in
theorem c_X2_setValue (l : Launch) {o : Nat} {x1 : Int32} {x2 : Int32} {x3 : Int32} (ho : aLin o = true) {ι : iS} {res : iS} (hM : m_X2_setValue o x1 x2 x3 ι = some res) : aM l yX2_setValue cX2_setValue 4 none rm_X2_setValue (fun ad => [.ref (ad o), .int x1, .int x2, .int x3]) (aG ι) none (aG res) := by
  refine aM.of (by decide) (fun _ => Nat.le_of_ble_eq_true rfl) ?_
  intro p e s m args below meth c D dA ad adV A ls C hw hl
  have C : aX p m c cX2_setValue 4 s args aTs RX2 meth none := C
  have hx := C.1.1
  have hb := C.1.2.1
  have hml := C.1.2.2.1
  have hown := C.1.2.2.2.1
  have hts := C.1.2.2.2.2
  have hl : lv_has ls 4 [(0, .ref (ad o)), (1, .int x1), (2, .int x2), (3, .int x3)] := hl
  unfold m_X2_setValue at hM
  refine lv_aload_n hx hb dX2_setValue_0 rfl (lv_at hl 0 rfl) ?_
  refine a_getp (q := (o + 1)) (σ := aG ι) (o := o) (T := TX2) (N := 11) C wU_X2 hw (aLin_k ho).1 (by decide) rfl 3 (by decide) rfl wF_X2_21 (aLin_p ho ι 0 (by decide)) dX2_setValue_1 ?_
  refine lv_iload_n hx hb dX2_setValue_4 rfl (lv_at hl 1 rfl) ?_
  refine lv_iconst (v := 5) hx hb dX2_setValue_5 (by decide) ?_
  refine lv_imul hx hb dX2_setValue_6 ?_
  refine lv_iload_n hx hb dX2_setValue_7 rfl (lv_at hl 2 rfl) ?_
  refine lv_iadd hx hb dX2_setValue_8 ?_
  refine lv_iload_n hx hb dX2_setValue_9 rfl (lv_at hl 3 rfl) ?_
  obtain ⟨hi, hM⟩ := h_i hM
  refine a_iast (σ := aG ι) (o := (o + 1)) C hw (aLin_k ho).2.1 hi rfl dX2_setValue_10 (fun H locs hw => ?_)
  have hw : aW D dA ad adV (aG (pI ι (o + 1) ((x1 * 5) + x2).toNatClampNeg x3)) A s H locs := hw
  cases h_e hM
  exact a_vret C hw dX2_setValue_11
def rm_X2_matchOf : Room := { frames := 0, cells := 0, slots := 0, locals := 0 }
theorem k_X2_matchOf : aCal RX2 yX2_matchOf cX2_matchOf 3 (some .int) 2 := ⟨wI_yX2_matchOf, wE_yX2_matchOf, wZ_X2, wC_yX2_matchOf, by decide +kernel⟩
set_option maxHeartbeats 4000000 in
set_option maxRecDepth 100000 in
theorem c_X2_matchOf (l : Launch) {o : Nat} {x1 : Int32} {x2 : Int32} (ho : aLin o = true) {ι : iS} {res : Int32 × iS} (hM : m_X2_matchOf o x1 x2 ι = some res) : aM l yX2_matchOf cX2_matchOf 3 (some .int) rm_X2_matchOf (fun ad => [.ref (ad o), .int x1, .int x2]) (aG ι) (some (.int res.1)) (aG res.2) := by
  refine aM.of (by decide) (fun _ => Nat.le_of_ble_eq_true rfl) ?_
  intro p e s m args below meth c D dA ad adV A ls C hw hl
  have C : aX p m c cX2_matchOf 3 s args aTs RX2 meth (some .int) := C
  have hx := C.1.1
  have hb := C.1.2.1
  have hml := C.1.2.2.1
  have hown := C.1.2.2.2.1
  have hts := C.1.2.2.2.2
  have hl : lv_has ls 3 [(0, .ref (ad o)), (1, .int x1), (2, .int x2)] := hl
  unfold m_X2_matchOf at hM
  refine lv_iload_n hx hb dX2_matchOf_0 rfl (lv_at hl 2 rfl) ?_
  refine lv_if_eq (tgt := 13) hx hb dX2_matchOf_1 (by decide) (fun hc => ?_) (fun hc => ?_)
  · replace hM := h_t hc hM
    refine lv_aload_n hx hb dX2_matchOf_13 rfl (lv_at hl 0 rfl) ?_
    refine a_getp (q := (o + 7)) (σ := aG ι) (o := o) (T := TX2) (N := 11) C wU_X2 hw (aLin_k ho).1 (by decide) rfl 9 (by decide) rfl wF_X2_40 (aLin_p ho ι 6 (by decide)) dX2_matchOf_14 ?_
    refine lv_iload_n hx hb dX2_matchOf_17 rfl (lv_at hl 1 rfl) ?_
    obtain ⟨hi, hM⟩ := h_i hM
    refine a_iald (σ := aG ι) (o := (o + 7)) C hw (aLin_k ho).2.2.2.2.2.2.2.1 hi rfl dX2_matchOf_18 ?_
    cases h_e hM
    exact a_iret C hw dX2_matchOf_19
  · replace hM := h_f hc hM
    refine lv_aload_n hx hb dX2_matchOf_4 rfl (lv_at hl 0 rfl) ?_
    refine a_getp (q := (o + 8)) (σ := aG ι) (o := o) (T := TX2) (N := 11) C wU_X2 hw (aLin_k ho).1 (by decide) rfl 10 (by decide) rfl wF_X2_43 (aLin_p ho ι 7 (by decide)) dX2_matchOf_5 ?_
    refine lv_iload_n hx hb dX2_matchOf_8 rfl (lv_at hl 1 rfl) ?_
    obtain ⟨hi, hM⟩ := h_i hM
    refine a_iald (σ := aG ι) (o := (o + 8)) C hw (aLin_k ho).2.2.2.2.2.2.2.2 hi rfl dX2_matchOf_9 ?_
    refine lv_goto (tgt := 19) hx hb dX2_matchOf_10 (by decide) ?_
    cases h_e hM
    exact a_iret C hw dX2_matchOf_19
def rm_X2_placeOf : Room := { frames := 0, cells := 0, slots := 0, locals := 0 }
set_option maxHeartbeats 4000000 in
set_option maxRecDepth 100000 in
theorem tl_X2_placeOf_2 (l : Launch) {p : Program} {e : Env} {s : State} {m : MethodId} {args : Array Value} {below : List Frame} {meth : Method} {c : Code} {D : va_G} {dA : Nat → ClassId} {ad adV : Nat → Nat} {A : Nat → Prop} (C : aX p m c cX2_placeOf 3 s args aTs RX2 meth (some .int)) {o : Nat} (ho : aLin o = true) {res : Int32 × iS} : ∀ (n : Nat) (y1 : Int32) (y2 : Int32) {ι : iS}, l_X2_placeOf_2 o n y1 y2 ι = some res → ∀ {H : Heap} {locs : List Loc} {ls : Array Slot}, aW D dA ad adV (aG ι) A s H locs → lv_has ls 3 [(0, .ref (ad o)), (1, .int y1), (2, .int y2)] → W p l e rm_X2_placeOf s m args below meth c H locs 0 0 (MQ below (aQ D dA ad (aG res.2) A (some (.int res.1))) args s 0 0 A) (F0 m 2 ls []) := by
  have hx := C.1.1
  have hb := C.1.2.1
  have hml := C.1.2.2.1
  have hown := C.1.2.2.2.1
  have hts := C.1.2.2.2.2
  intro n
  induction n with
  | zero => intro y1 y2 ι hM; simp [l_X2_placeOf_2] at hM
  | succ n ih =>
    intro y1 y2 ι hM H locs ls hw hl
    rw [l_X2_placeOf_2] at hM
    refine lv_iload_n hx hb dX2_placeOf_2 rfl (lv_at hl 2 rfl) ?_
    refine lv_aload_n hx hb dX2_placeOf_3 rfl (lv_at hl 0 rfl) ?_
    refine a_geti (σ := aG ι) (o := o) (T := TX2) (N := 11) C wU_X2 hw (aLin_k ho).1 (by decide) rfl 2 (by decide) rfl wF_X2_18 dX2_placeOf_4 ?_
    refine lv_icmp_ge (tgt := 28) hx hb dX2_placeOf_7 (by decide) (fun hc => ?_) (fun hc => ?_)
    · replace hM := h_t hc hM
      refine lv_iconst (v := (-1)) hx hb dX2_placeOf_28 (by decide) ?_
      cases h_e hM
      exact a_iret C hw dX2_placeOf_29
    · replace hM := h_f hc hM
      refine lv_aload_n hx hb dX2_placeOf_10 rfl (lv_at hl 0 rfl) ?_
      refine a_getp (q := (o + 5)) (σ := aG ι) (o := o) (T := TX2) (N := 11) C wU_X2 hw (aLin_k ho).1 (by decide) rfl 7 (by decide) rfl wF_X2_34 (aLin_p ho ι 4 (by decide)) dX2_placeOf_11 ?_
      refine lv_iload_n hx hb dX2_placeOf_14 rfl (lv_at hl 2 rfl) ?_
      obtain ⟨hi, hM⟩ := h_i hM
      refine a_iald (σ := aG ι) (o := (o + 5)) C hw (aLin_k ho).2.2.2.2.2.1 hi rfl dX2_placeOf_15 ?_
      refine lv_iload_n hx hb dX2_placeOf_16 rfl (lv_at hl 1 rfl) ?_
      refine lv_icmp_ne (tgt := 22) hx hb dX2_placeOf_17 (by decide) (fun hc => ?_) (fun hc => ?_)
      · replace hM := h_f hc hM
        refine lv_iinc (v := (y2 + 1)) (lv' := [(2, .int (y2 + 1)), (0, .ref (ad o)), (1, .int y1)]) hx hb dX2_placeOf_22 hl (k := 2) rfl rfl (by decide) rfl (fun ls hl => ?_)
        refine lv_goto (tgt := 2) hx hb dX2_placeOf_25 (by decide) ?_
        exact ih (y1) ((y2 + 1)) hM hw (lv_sub hl [1, 2, 0] rfl)
      · replace hM := h_t hc hM
        refine lv_iload_n hx hb dX2_placeOf_20 rfl (lv_at hl 2 rfl) ?_
        cases h_e hM
        exact a_iret C hw dX2_placeOf_21
theorem k_X2_placeOf : aCal RX2 yX2_placeOf cX2_placeOf 3 (some .int) 1 := ⟨wI_yX2_placeOf, wE_yX2_placeOf, wZ_X2, wC_yX2_placeOf, by decide +kernel⟩
set_option maxHeartbeats 4000000 in
set_option maxRecDepth 100000 in
theorem c_X2_placeOf (l : Launch) {o : Nat} {x1 : Int32} (ho : aLin o = true) {ι : iS} {res : Int32 × iS} (hM : m_X2_placeOf o x1 ι = some res) : aM l yX2_placeOf cX2_placeOf 3 (some .int) rm_X2_placeOf (fun ad => [.ref (ad o), .int x1]) (aG ι) (some (.int res.1)) (aG res.2) := by
  refine aM.of (by decide) (fun _ => Nat.le_of_ble_eq_true rfl) ?_
  intro p e s m args below meth c D dA ad adV A ls C hw hl
  have C : aX p m c cX2_placeOf 3 s args aTs RX2 meth (some .int) := C
  have hx := C.1.1
  have hb := C.1.2.1
  have hml := C.1.2.2.1
  have hown := C.1.2.2.2.1
  have hts := C.1.2.2.2.2
  have hl : lv_has ls 3 [(0, .ref (ad o)), (1, .int x1)] := hl
  unfold m_X2_placeOf at hM
  refine lv_iconst (v := 0) hx hb dX2_placeOf_0 (by decide) ?_
  refine lv_istore_n (lv' := [(2, .int 0), (0, .ref (ad o)), (1, .int x1)]) hx hb dX2_placeOf_1 rfl hl (by decide) rfl (fun ls hl => ?_)
  exact tl_X2_placeOf_2 l C ho aF (x1) (0) hM hw (lv_sub hl [1, 2, 0] rfl)
