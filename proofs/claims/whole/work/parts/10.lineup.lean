def m_X2_valueOf (o : Nat) (x1 : Int32) (x2 : Int32) (ι : iS) : Option (Int32 × iS) := if aIn ((x1 * (5 : Int32)) + x2) 80 = true then some ((gI ι (o + 1) ((x1 * (5 : Int32)) + x2).toNatClampNeg), ι) else none
def m_X2_setValue (o : Nat) (x1 : Int32) (x2 : Int32) (x3 : Int32) (ι : iS) : Option (iS) := if aIn ((x1 * (5 : Int32)) + x2) 80 = true then some (pI ι (o + 1) ((x1 * (5 : Int32)) + x2).toNatClampNeg x3) else none
def m_X2_matchOf (o : Nat) (x1 : Int32) (x2 : Int32) (ι : iS) : Option (Int32 × iS) := if x2 = 0 then if aIn x1 16 = true then some ((gI ι (o + 7) x1.toNatClampNeg), ι) else none else if aIn x1 16 = true then some ((gI ι (o + 8) x1.toNatClampNeg), ι) else none
def l_X2_placeOf_2 (o : Nat) : Nat → Int32 → Int32 → iS → Option (Int32 × iS)
  | 0, _, _, _ => none
  | n + 1, y1, y2, ι => if (gI ι o 2) ≤ y2 then some ((-1 : Int32), ι) else if aIn y2 8 = true then if (gI ι (o + 5) y2.toNatClampNeg) = y1 then some (y2, ι) else l_X2_placeOf_2 o n y1 (y2 + 1) ι else none
def m_X2_placeOf (o : Nat) (x1 : Int32) (ι : iS) : Option (Int32 × iS) := l_X2_placeOf_2 o aF x1 (0 : Int32) ι
def m_X2_differenceOf (o : Nat) (x1 : Int32) (x2 : Int32) (x3 : Int32) (ι : iS) : Option (Int32 × iS) := if aIn x2 5 = true then if (gI ι (o + 3) x2.toNatClampNeg) = 0 then some ((0 : Int32), ι) else if x3 = 0 then if aIn x2 5 = true then if aIn ((x1 * (5 : Int32)) + x2) 80 = true then some ((if 0 ≤ ((gI ι (o + 1) ((x1 * (5 : Int32)) + x2).toNatClampNeg) - (gI ι (o + 2) x2.toNatClampNeg)) then ((gI ι (o + 1) ((x1 * (5 : Int32)) + x2).toNatClampNeg) - (gI ι (o + 2) x2.toNatClampNeg)) else 0 - ((gI ι (o + 1) ((x1 * (5 : Int32)) + x2).toNatClampNeg) - (gI ι (o + 2) x2.toNatClampNeg))), ι) else none else none else if aIn ((0 : Int32) + x2) 80 = true then if aIn ((x1 * (5 : Int32)) + x2) 80 = true then some ((if 0 ≤ ((gI ι (o + 1) ((x1 * (5 : Int32)) + x2).toNatClampNeg) - (gI ι (o + 1) ((0 : Int32) + x2).toNatClampNeg)) then ((gI ι (o + 1) ((x1 * (5 : Int32)) + x2).toNatClampNeg) - (gI ι (o + 1) ((0 : Int32) + x2).toNatClampNeg)) else 0 - ((gI ι (o + 1) ((x1 * (5 : Int32)) + x2).toNatClampNeg) - (gI ι (o + 1) ((0 : Int32) + x2).toNatClampNeg))), ι) else none else none else none
def l_X2_showFirst_15 (o : Nat) : Nat → Int32 → iS → Option (iS)
  | 0, _, _ => none
  | n + 1, y1, ι => if (gI ι o 2) ≤ y1 then some ι else if aIn y1 8 = true then l_X2_showFirst_15 o n (y1 + 1) (pI ι (o + 5) y1.toNatClampNeg y1) else none
def m_X2_showFirst (o : Nat) (ι : iS) : Option (iS) := l_X2_showFirst_15 o aF (0 : Int32) (pI ι o 2 (if (8 : Int32) < (gI ι o 1) then (8 : Int32) else (gI ι o 1)))
def m_X2_showLast (o : Nat) (x1 : Int32) (ι : iS) : Option (iS) := if (8 : Int32) ≤ (gI ι o 2) then some ι else if aIn (gI ι o 2) 8 = true then some (pI (pI ι (o + 5) (gI ι o 2).toNatClampNeg x1) o 2 ((gI (pI ι (o + 5) (gI ι o 2).toNatClampNeg x1) o 2) + (1 : Int32))) else none
def l_X2_hideAt_4 (o : Nat) : Nat → Int32 → Int32 → iS → Option (iS)
  | 0, _, _, _ => none
  | n + 1, y1, y2, ι => if (gI ι o 2) ≤ y2 then some (pI ι o 2 ((gI ι o 2) - (1 : Int32))) else if aIn y2 8 = true then if aIn (y2 - (1 : Int32)) 8 = true then l_X2_hideAt_4 o n y1 (y2 + 1) (pI ι (o + 5) (y2 - (1 : Int32)).toNatClampNeg (gI ι (o + 5) y2.toNatClampNeg)) else none else none
def m_X2_hideAt (o : Nat) (x1 : Int32) (ι : iS) : Option (iS) := l_X2_hideAt_4 o aF x1 (x1 + (1 : Int32)) ι
def l_X2_allMockPicks_4 (o : Nat) : Nat → Int32 → Int32 → iS → Option (Int32 × iS)
  | 0, _, _, _ => none
  | n + 1, y1, y2, ι => if (gI ι o 1) ≤ y2 then some (y1, ι) else if aIn y2 16 = true then l_X2_allMockPicks_4 o n (y1 + (gI ι (o + 6) y2.toNatClampNeg)) (y2 + 1) ι else none
def m_X2_allMockPicks (o : Nat) (ι : iS) : Option (Int32 × iS) := l_X2_allMockPicks_4 o aF (0 : Int32) (0 : Int32) ι
def l_X2_clear_68 (o : Nat) : Nat → Int32 → iS → Option (iS)
  | 0, _, _ => none
  | n + 1, y1, ι => if (16 : Int32) ≤ y1 then some ι else if aIn y1 16 = true then l_X2_clear_68 o n (y1 + 1) (pI ι (o + 6) y1.toNatClampNeg (0 : Int32)) else none
def l_X2_clear_44 (o : Nat) : Nat → Int32 → iS → Option (iS)
  | 0, _, _ => none
  | n + 1, y1, ι => if (4 : Int32) ≤ y1 then l_X2_clear_68 o aF (0 : Int32) ι else if aIn y1 4 = true then if aIn y1 4 = true then l_X2_clear_44 o n (y1 + 1) (pI ι (o + 4) y1.toNatClampNeg (aSt 2 y1.toNatClampNeg)) else none else none
def l_X2_clear_17 (o : Nat) : Nat → Int32 → iS → Option (iS)
  | 0, _, _ => none
  | n + 1, y1, ι => if (5 : Int32) ≤ y1 then l_X2_clear_44 o aF (0 : Int32) ι else if aIn y1 5 = true then if aIn y1 5 = true then l_X2_clear_17 o n (y1 + 1) (pI (pI ι (o + 2) y1.toNatClampNeg (-1 : Int32)) (o + 3) y1.toNatClampNeg (0 : Int32)) else none else none
def m_X2_clear (o : Nat) (ι : iS) : Option (iS) := l_X2_clear_17 o aF (0 : Int32) (pI (pI (pI ι o 0 (0 : Int32)) o 1 (1 : Int32)) o 2 (0 : Int32))
def m_X2_copyFrom (o : Nat) (x1 : Nat) (ι : iS) : Option (iS) := Option.bind (some (rI (pI (pI (pI ι o 0 (gI ι x1 0)) o 1 (gI (pI ι o 0 (gI ι x1 0)) x1 1)) o 2 (gI (pI (pI ι o 0 (gI ι x1 0)) o 1 (gI (pI ι o 0 (gI ι x1 0)) x1 1)) x1 2)) (o + 1) (va_cpy (gI (pI (pI (pI ι o 0 (gI ι x1 0)) o 1 (gI (pI ι o 0 (gI ι x1 0)) x1 1)) o 2 (gI (pI (pI ι o 0 (gI ι x1 0)) o 1 (gI (pI ι o 0 (gI ι x1 0)) x1 1)) x1 2)) (x1 + 1)) (gI (pI (pI (pI ι o 0 (gI ι x1 0)) o 1 (gI (pI ι o 0 (gI ι x1 0)) x1 1)) o 2 (gI (pI (pI ι o 0 (gI ι x1 0)) o 1 (gI (pI ι o 0 (gI ι x1 0)) x1 1)) x1 2)) (o + 1)) 0 0 80))) fun ι36 => Option.bind (some (rI ι36 (o + 2) (va_cpy (gI ι36 (x1 + 2)) (gI ι36 (o + 2)) 0 0 5))) fun ι50 => Option.bind (some (rI ι50 (o + 3) (va_cpy (gI ι50 (x1 + 3)) (gI ι50 (o + 3)) 0 0 5))) fun ι64 => Option.bind (some (rI ι64 (o + 4) (va_cpy (gI ι64 (x1 + 4)) (gI ι64 (o + 4)) 0 0 4))) fun ι78 => Option.bind (some (rI ι78 (o + 5) (va_cpy (gI ι78 (x1 + 5)) (gI ι78 (o + 5)) 0 0 8))) fun ι93 => Option.bind (some (rI ι93 (o + 6) (va_cpy (gI ι93 (x1 + 6)) (gI ι93 (o + 6)) 0 0 16))) fun ι108 => Option.bind (some (rI ι108 (o + 7) (va_cpy (gI ι108 (x1 + 7)) (gI ι108 (o + 7)) 0 0 16))) fun ι123 => Option.bind (some (rI ι123 (o + 8) (va_cpy (gI ι123 (x1 + 8)) (gI ι123 (o + 8)) 0 0 16))) fun ι138 => some ι138
def rm_X2_valueOf : Room := { frames := 0, cells := 0, slots := 0, locals := 0 }
theorem k_X2_valueOf : aCal RX2 yX2_valueOf cX2_valueOf 3 (some .int) 2 := ⟨wI_yX2_valueOf, wE_yX2_valueOf, wZ_X2, wC_yX2_valueOf, by decide +kernel⟩
set_option maxHeartbeats 4000000 in
set_option maxRecDepth 100000 in
theorem c_X2_valueOf (l : Launch) {o : Nat} {x1 : Int32} {x2 : Int32} (ho : aLin o = true) {ι : iS} {res : Int32 × iS} (hM : m_X2_valueOf o x1 x2 ι = some res) : aM l yX2_valueOf cX2_valueOf 3 (some .int) rm_X2_valueOf (fun ad => [.ref (ad o), .int x1, .int x2]) (aG ι) (some (.int res.1)) (aG res.2) := by
  refine aM.of (by decide) (fun _ => Nat.le_of_ble_eq_true rfl) ?_
  intro p e s m args below meth c D dA ad adV A ls C hw hl
  have C : aX p m c cX2_valueOf 3 s args aTs RX2 meth (some .int) := C
  have hx := C.1.1
  have hb := C.1.2.1
  have hml := C.1.2.2.1
  have hown := C.1.2.2.2.1
  have hts := C.1.2.2.2.2
  have hl : lv_has ls 3 [(0, .ref (ad o)), (1, .int x1), (2, .int x2)] := hl
  unfold m_X2_valueOf at hM
  refine lv_aload_n hx hb dX2_valueOf_0 rfl (lv_at hl 0 rfl) ?_
  refine a_getp (q := (o + 1)) (σ := aG ι) (o := o) (T := TX2) (N := 11) C wU_X2 hw (aLin_k ho).1 (by decide) rfl 3 (by decide) rfl wF_X2_21 (aLin_p ho ι 0 (by decide)) dX2_valueOf_1 ?_
  refine lv_iload_n hx hb dX2_valueOf_4 rfl (lv_at hl 1 rfl) ?_
  refine lv_iconst (v := (5 : Int32)) hx hb dX2_valueOf_5 (by decide) ?_
  refine lv_imul hx hb dX2_valueOf_6 ?_
  refine lv_iload_n hx hb dX2_valueOf_7 rfl (lv_at hl 2 rfl) ?_
  refine lv_iadd hx hb dX2_valueOf_8 ?_
  obtain ⟨hi, hM⟩ := h_i hM
  refine a_iald (σ := aG ι) (o := (o + 1)) C hw (aLin_k ho).2.1 hi rfl dX2_valueOf_9 ?_
  cases h_e hM
  exact a_iret C hw dX2_valueOf_10
def rm_X2_setValue : Room := { frames := 0, cells := 0, slots := 0, locals := 0 }
theorem k_X2_setValue : aCal RX2 yX2_setValue cX2_setValue 4 none 3 := ⟨wI_yX2_setValue, wE_yX2_setValue, wZ_X2, wC_yX2_setValue, by decide +kernel⟩
set_option maxHeartbeats 4000000 in
set_option maxRecDepth 100000 in
theorem c_X2_setValue (l : Launch) {o : Nat} {x1 : Int32} {x2 : Int32} {x3 : Int32} (ho : aLin o = true) {ι : iS} {res : iS} (hM : m_X2_setValue o x1 x2 x3 ι = some res) : aM l yX2_setValue cX2_setValue 4 none rm_X2_setValue (fun ad => [.ref (ad o), .int x1, .int x2, .int x3]) (aG ι) none (aG res) := by
  refine aM.of (by decide) (fun _ => Nat.le_of_ble_eq_true rfl) ?_
  intro p e s m args below meth c D dA ad adV A ls C hw hl
  have C : aX p m c cX2_setValue 4 s args aTs RX2 meth none := C
  have hx := C.1.1
  have hb := C.1.2.1
  have hml := C.1.2.2.1
  have hown := C.1.2.2.2.1
  have hts := C.1.2.2.2.2
  have hl : lv_has ls 4 [(0, .ref (ad o)), (1, .int x1), (2, .int x2), (3, .int x3)] := hl
  unfold m_X2_setValue at hM
  refine lv_aload_n hx hb dX2_setValue_0 rfl (lv_at hl 0 rfl) ?_
  refine a_getp (q := (o + 1)) (σ := aG ι) (o := o) (T := TX2) (N := 11) C wU_X2 hw (aLin_k ho).1 (by decide) rfl 3 (by decide) rfl wF_X2_21 (aLin_p ho ι 0 (by decide)) dX2_setValue_1 ?_
  refine lv_iload_n hx hb dX2_setValue_4 rfl (lv_at hl 1 rfl) ?_
  refine lv_iconst (v := (5 : Int32)) hx hb dX2_setValue_5 (by decide) ?_
  refine lv_imul hx hb dX2_setValue_6 ?_
  refine lv_iload_n hx hb dX2_setValue_7 rfl (lv_at hl 2 rfl) ?_
  refine lv_iadd hx hb dX2_setValue_8 ?_
  refine lv_iload_n hx hb dX2_setValue_9 rfl (lv_at hl 3 rfl) ?_
  obtain ⟨hi, hM⟩ := h_i hM
  refine a_iast (σ := aG ι) (o := (o + 1)) C hw (aLin_k ho).2.1 hi rfl dX2_setValue_10 (fun H locs hw => ?_)
  have hw : aW D dA ad adV (aG (pI ι (o + 1) ((x1 * (5 : Int32)) + x2).toNatClampNeg x3)) A s H locs := hw
  cases h_e hM
  exact a_vret C hw dX2_setValue_11
def rm_X2_matchOf : Room := { frames := 0, cells := 0, slots := 0, locals := 0 }
theorem k_X2_matchOf : aCal RX2 yX2_matchOf cX2_matchOf 3 (some .int) 2 := ⟨wI_yX2_matchOf, wE_yX2_matchOf, wZ_X2, wC_yX2_matchOf, by decide +kernel⟩
set_option maxHeartbeats 4000000 in
set_option maxRecDepth 100000 in
theorem c_X2_matchOf (l : Launch) {o : Nat} {x1 : Int32} {x2 : Int32} (ho : aLin o = true) {ι : iS} {res : Int32 × iS} (hM : m_X2_matchOf o x1 x2 ι = some res) : aM l yX2_matchOf cX2_matchOf 3 (some .int) rm_X2_matchOf (fun ad => [.ref (ad o), .int x1, .int x2]) (aG ι) (some (.int res.1)) (aG res.2) := by
  refine aM.of (by decide) (fun _ => Nat.le_of_ble_eq_true rfl) ?_
  intro p e s m args below meth c D dA ad adV A ls C hw hl
  have C : aX p m c cX2_matchOf 3 s args aTs RX2 meth (some .int) := C
  have hx := C.1.1
  have hb := C.1.2.1
  have hml := C.1.2.2.1
  have hown := C.1.2.2.2.1
  have hts := C.1.2.2.2.2
  have hl : lv_has ls 3 [(0, .ref (ad o)), (1, .int x1), (2, .int x2)] := hl
  unfold m_X2_matchOf at hM
  refine lv_iload_n hx hb dX2_matchOf_0 rfl (lv_at hl 2 rfl) ?_
  refine lv_if_eq (tgt := 13) hx hb dX2_matchOf_1 (by decide) (fun hc => ?_) (fun hc => ?_)
  · replace hM := h_t hc hM
    refine lv_aload_n hx hb dX2_matchOf_13 rfl (lv_at hl 0 rfl) ?_
    refine a_getp (q := (o + 7)) (σ := aG ι) (o := o) (T := TX2) (N := 11) C wU_X2 hw (aLin_k ho).1 (by decide) rfl 9 (by decide) rfl wF_X2_40 (aLin_p ho ι 6 (by decide)) dX2_matchOf_14 ?_
    refine lv_iload_n hx hb dX2_matchOf_17 rfl (lv_at hl 1 rfl) ?_
    obtain ⟨hi, hM⟩ := h_i hM
    refine a_iald (σ := aG ι) (o := (o + 7)) C hw (aLin_k ho).2.2.2.2.2.2.2.1 hi rfl dX2_matchOf_18 ?_
    cases h_e hM
    exact a_iret C hw dX2_matchOf_19
  · replace hM := h_f hc hM
    refine lv_aload_n hx hb dX2_matchOf_4 rfl (lv_at hl 0 rfl) ?_
    refine a_getp (q := (o + 8)) (σ := aG ι) (o := o) (T := TX2) (N := 11) C wU_X2 hw (aLin_k ho).1 (by decide) rfl 10 (by decide) rfl wF_X2_43 (aLin_p ho ι 7 (by decide)) dX2_matchOf_5 ?_
    refine lv_iload_n hx hb dX2_matchOf_8 rfl (lv_at hl 1 rfl) ?_
    obtain ⟨hi, hM⟩ := h_i hM
    refine a_iald (σ := aG ι) (o := (o + 8)) C hw (aLin_k ho).2.2.2.2.2.2.2.2 hi rfl dX2_matchOf_9 ?_
    refine lv_goto (tgt := 19) hx hb dX2_matchOf_10 (by decide) ?_
    cases h_e hM
    exact a_iret C hw dX2_matchOf_19
def rm_X2_placeOf : Room := { frames := 0, cells := 0, slots := 0, locals := 0 }
set_option maxHeartbeats 4000000 in
set_option maxRecDepth 100000 in
theorem tl_X2_placeOf_2 (l : Launch) {p : Program} {e : Env} {s : State} {m : MethodId} {args : Array Value} {below : List Frame} {meth : Method} {c : Code} {D : va_G} {dA : Nat → ClassId} {ad adV : Nat → Nat} {A : Nat → Prop} (C : aX p m c cX2_placeOf 3 s args aTs RX2 meth (some .int)) {o : Nat} (ho : aLin o = true) {res : Int32 × iS} : ∀ (n : Nat) (y1 : Int32) (y2 : Int32) {ι : iS}, l_X2_placeOf_2 o n y1 y2 ι = some res → ∀ {H : Heap} {locs : List Loc} {ls : Array Slot}, aW D dA ad adV (aG ι) A s H locs → lv_has ls 3 [(0, .ref (ad o)), (1, .int y1), (2, .int y2)] → W p l e rm_X2_placeOf s m args below meth c H locs 0 0 (MQ below (aQ D dA ad (aG res.2) A (some (.int res.1))) args s 0 0 A) (F0 m 2 ls []) := by
  have hx := C.1.1
  have hb := C.1.2.1
  have hml := C.1.2.2.1
  have hown := C.1.2.2.2.1
  have hts := C.1.2.2.2.2
  intro n
  induction n with
  | zero => intro y1 y2 ι hM; simp [l_X2_placeOf_2] at hM
  | succ n ih =>
    intro y1 y2 ι hM H locs ls hw hl
    rw [l_X2_placeOf_2] at hM
    refine lv_iload_n hx hb dX2_placeOf_2 rfl (lv_at hl 2 rfl) ?_
    refine lv_aload_n hx hb dX2_placeOf_3 rfl (lv_at hl 0 rfl) ?_
    refine a_geti (σ := aG ι) (o := o) (T := TX2) (N := 11) C wU_X2 hw (aLin_k ho).1 (by decide) rfl 2 (by decide) rfl wF_X2_18 dX2_placeOf_4 ?_
    refine lv_icmp_ge (tgt := 28) hx hb dX2_placeOf_7 (by decide) (fun hc => ?_) (fun hc => ?_)
    · replace hM := h_t hc hM
      refine lv_iconst (v := (-1 : Int32)) hx hb dX2_placeOf_28 (by decide) ?_
      cases h_e hM
      exact a_iret C hw dX2_placeOf_29
    · replace hM := h_f hc hM
      refine lv_aload_n hx hb dX2_placeOf_10 rfl (lv_at hl 0 rfl) ?_
      refine a_getp (q := (o + 5)) (σ := aG ι) (o := o) (T := TX2) (N := 11) C wU_X2 hw (aLin_k ho).1 (by decide) rfl 7 (by decide) rfl wF_X2_34 (aLin_p ho ι 4 (by decide)) dX2_placeOf_11 ?_
      refine lv_iload_n hx hb dX2_placeOf_14 rfl (lv_at hl 2 rfl) ?_
      obtain ⟨hi, hM⟩ := h_i hM
      refine a_iald (σ := aG ι) (o := (o + 5)) C hw (aLin_k ho).2.2.2.2.2.1 hi rfl dX2_placeOf_15 ?_
      refine lv_iload_n hx hb dX2_placeOf_16 rfl (lv_at hl 1 rfl) ?_
      refine lv_icmp_ne (tgt := 22) hx hb dX2_placeOf_17 (by decide) (fun hc => ?_) (fun hc => ?_)
      · replace hM := h_f hc hM
        refine lv_iinc (v := (y2 + 1)) (lv' := [(2, .int (y2 + 1)), (0, .ref (ad o)), (1, .int y1)]) hx hb dX2_placeOf_22 hl (k := 2) rfl rfl (by decide) rfl (fun ls hl => ?_)
        refine lv_goto (tgt := 2) hx hb dX2_placeOf_25 (by decide) ?_
        exact ih (y1) ((y2 + 1)) hM hw (lv_sub hl [1, 2, 0] rfl)
      · replace hM := h_t hc hM
        refine lv_iload_n hx hb dX2_placeOf_20 rfl (lv_at hl 2 rfl) ?_
        cases h_e hM
        exact a_iret C hw dX2_placeOf_21
theorem k_X2_placeOf : aCal RX2 yX2_placeOf cX2_placeOf 3 (some .int) 1 := ⟨wI_yX2_placeOf, wE_yX2_placeOf, wZ_X2, wC_yX2_placeOf, by decide +kernel⟩
set_option maxHeartbeats 4000000 in
set_option maxRecDepth 100000 in
theorem c_X2_placeOf (l : Launch) {o : Nat} {x1 : Int32} (ho : aLin o = true) {ι : iS} {res : Int32 × iS} (hM : m_X2_placeOf o x1 ι = some res) : aM l yX2_placeOf cX2_placeOf 3 (some .int) rm_X2_placeOf (fun ad => [.ref (ad o), .int x1]) (aG ι) (some (.int res.1)) (aG res.2) := by
  refine aM.of (by decide) (fun _ => Nat.le_of_ble_eq_true rfl) ?_
  intro p e s m args below meth c D dA ad adV A ls C hw hl
  have C : aX p m c cX2_placeOf 3 s args aTs RX2 meth (some .int) := C
  have hx := C.1.1
  have hb := C.1.2.1
  have hml := C.1.2.2.1
  have hown := C.1.2.2.2.1
  have hts := C.1.2.2.2.2
  have hl : lv_has ls 3 [(0, .ref (ad o)), (1, .int x1)] := hl
  unfold m_X2_placeOf at hM
  refine lv_iconst (v := (0 : Int32)) hx hb dX2_placeOf_0 (by decide) ?_
  refine lv_istore_n (lv' := [(2, .int (0 : Int32)), (0, .ref (ad o)), (1, .int x1)]) hx hb dX2_placeOf_1 rfl hl (by decide) rfl (fun ls hl => ?_)
  exact tl_X2_placeOf_2 l C ho aF (x1) ((0 : Int32)) hM hw (lv_sub hl [1, 2, 0] rfl)
def rm_X2_differenceOf : Room := { frames := 1, cells := 0, slots := 0, locals := 28 }
theorem k_X2_differenceOf : aCal RX2 yX2_differenceOf cX2_differenceOf 5 (some .int) 3 := ⟨wI_yX2_differenceOf, wE_yX2_differenceOf, wZ_X2, wC_yX2_differenceOf, by decide +kernel⟩
set_option maxHeartbeats 4000000 in
set_option maxRecDepth 100000 in
theorem c_X2_differenceOf (l : Launch) {o : Nat} {x1 : Int32} {x2 : Int32} {x3 : Int32} (ho : aLin o = true) {ι : iS} {res : Int32 × iS} (hM : m_X2_differenceOf o x1 x2 x3 ι = some res) : aM l yX2_differenceOf cX2_differenceOf 5 (some .int) rm_X2_differenceOf (fun ad => [.ref (ad o), .int x1, .int x2, .int x3]) (aG ι) (some (.int res.1)) (aG res.2) := by
  refine aM.of (by decide) (fun _ => Nat.le_of_ble_eq_true rfl) ?_
  intro p e s m args below meth c D dA ad adV A ls C hw hl
  have C : aX p m c cX2_differenceOf 5 s args aTs RX2 meth (some .int) := C
  have hx := C.1.1
  have hb := C.1.2.1
  have hml := C.1.2.2.1
  have hown := C.1.2.2.2.1
  have hts := C.1.2.2.2.2
  have hl : lv_has ls 5 [(0, .ref (ad o)), (1, .int x1), (2, .int x2), (3, .int x3)] := hl
  unfold m_X2_differenceOf at hM
  refine lv_aload_n hx hb dX2_differenceOf_0 rfl (lv_at hl 0 rfl) ?_
  refine a_getp (q := (o + 3)) (σ := aG ι) (o := o) (T := TX2) (N := 11) C wU_X2 hw (aLin_k ho).1 (by decide) rfl 5 (by decide) rfl wF_X2_28 (aLin_p ho ι 2 (by decide)) dX2_differenceOf_1 ?_
  refine lv_iload_n hx hb dX2_differenceOf_4 rfl (lv_at hl 2 rfl) ?_
  obtain ⟨hi, hM⟩ := h_i hM
  refine a_iald (σ := aG ι) (o := (o + 3)) C hw (aLin_k ho).2.2.2.1 hi rfl dX2_differenceOf_5 ?_
  refine lv_if_ne (tgt := 11) hx hb dX2_differenceOf_6 (by decide) (fun hc => ?_) (fun hc => ?_)
  · replace hM := h_f hc hM
    refine lv_iload_n hx hb dX2_differenceOf_11 rfl (lv_at hl 3 rfl) ?_
    refine lv_if_eq (tgt := 26) hx hb dX2_differenceOf_12 (by decide) (fun hc => ?_) (fun hc => ?_)
    · replace hM := h_t hc hM
      refine lv_aload_n hx hb dX2_differenceOf_26 rfl (lv_at hl 0 rfl) ?_
      refine a_getp (q := (o + 2)) (σ := aG ι) (o := o) (T := TX2) (N := 11) C wU_X2 hw (aLin_k ho).1 (by decide) rfl 4 (by decide) rfl wF_X2_25 (aLin_p ho ι 1 (by decide)) dX2_differenceOf_27 ?_
      refine lv_iload_n hx hb dX2_differenceOf_30 rfl (lv_at hl 2 rfl) ?_
      obtain ⟨hi, hM⟩ := h_i hM
      refine a_iald (σ := aG ι) (o := (o + 2)) C hw (aLin_k ho).2.2.1 hi rfl dX2_differenceOf_31 ?_
      refine lv_istore (lv' := [(4, .int (gI ι (o + 2) x2.toNatClampNeg)), (0, .ref (ad o)), (1, .int x1), (2, .int x2), (3, .int x3)]) hx hb dX2_differenceOf_32 hl (by decide) rfl (fun ls hl => ?_)
      refine lv_aload_n hx hb dX2_differenceOf_34 rfl (lv_at hl 1 rfl) ?_
      refine a_getp (q := (o + 1)) (σ := aG ι) (o := o) (T := TX2) (N := 11) C wU_X2 hw (aLin_k ho).1 (by decide) rfl 3 (by decide) rfl wF_X2_21 (aLin_p ho ι 0 (by decide)) dX2_differenceOf_35 ?_
      refine lv_iload_n hx hb dX2_differenceOf_38 rfl (lv_at hl 2 rfl) ?_
      refine lv_iconst (v := (5 : Int32)) hx hb dX2_differenceOf_39 (by decide) ?_
      refine lv_imul hx hb dX2_differenceOf_40 ?_
      refine lv_iload_n hx hb dX2_differenceOf_41 rfl (lv_at hl 3 rfl) ?_
      refine lv_iadd hx hb dX2_differenceOf_42 ?_
      obtain ⟨hi, hM⟩ := h_i hM
      refine a_iald (σ := aG ι) (o := (o + 1)) C hw (aLin_k ho).2.1 hi rfl dX2_differenceOf_43 ?_
      refine lv_iload hx hb dX2_differenceOf_44 (lv_at hl 0 rfl) ?_
      refine lv_isub hx hb dX2_differenceOf_46 ?_
      refine va_mabs hx hb (hml.trans hl.1.symm) hown (hts _ wM_X2_58) (hts _ wS_Lib_Math_abs_name) (hts _ wZ_J9) (hts _ wC_Lib_Math_abs_name) (Nat.le_of_ble_eq_true rfl) (Nat.le_of_ble_eq_true rfl) (Nat.zero_le _) (Nat.zero_le _) dX2_differenceOf_47 ?_
      cases h_e hM
      exact a_iret C hw dX2_differenceOf_50
    · replace hM := h_f hc hM
      refine lv_aload_n hx hb dX2_differenceOf_15 rfl (lv_at hl 0 rfl) ?_
      refine a_getp (q := (o + 1)) (σ := aG ι) (o := o) (T := TX2) (N := 11) C wU_X2 hw (aLin_k ho).1 (by decide) rfl 3 (by decide) rfl wF_X2_21 (aLin_p ho ι 0 (by decide)) dX2_differenceOf_16 ?_
      refine lv_iconst (v := (0 : Int32)) hx hb dX2_differenceOf_19 (by decide) ?_
      refine lv_iload_n hx hb dX2_differenceOf_20 rfl (lv_at hl 2 rfl) ?_
      refine lv_iadd hx hb dX2_differenceOf_21 ?_
      obtain ⟨hi, hM⟩ := h_i hM
      refine a_iald (σ := aG ι) (o := (o + 1)) C hw (aLin_k ho).2.1 hi rfl dX2_differenceOf_22 ?_
      refine lv_goto (tgt := 32) hx hb dX2_differenceOf_23 (by decide) ?_
      refine lv_istore (lv' := [(4, .int (gI ι (o + 1) ((0 : Int32) + x2).toNatClampNeg)), (0, .ref (ad o)), (1, .int x1), (2, .int x2), (3, .int x3)]) hx hb dX2_differenceOf_32 hl (by decide) rfl (fun ls hl => ?_)
      refine lv_aload_n hx hb dX2_differenceOf_34 rfl (lv_at hl 1 rfl) ?_
      refine a_getp (q := (o + 1)) (σ := aG ι) (o := o) (T := TX2) (N := 11) C wU_X2 hw (aLin_k ho).1 (by decide) rfl 3 (by decide) rfl wF_X2_21 (aLin_p ho ι 0 (by decide)) dX2_differenceOf_35 ?_
      refine lv_iload_n hx hb dX2_differenceOf_38 rfl (lv_at hl 2 rfl) ?_
      refine lv_iconst (v := (5 : Int32)) hx hb dX2_differenceOf_39 (by decide) ?_
      refine lv_imul hx hb dX2_differenceOf_40 ?_
      refine lv_iload_n hx hb dX2_differenceOf_41 rfl (lv_at hl 3 rfl) ?_
      refine lv_iadd hx hb dX2_differenceOf_42 ?_
      obtain ⟨hi, hM⟩ := h_i hM
      refine a_iald (σ := aG ι) (o := (o + 1)) C hw (aLin_k ho).2.1 hi rfl dX2_differenceOf_43 ?_
      refine lv_iload hx hb dX2_differenceOf_44 (lv_at hl 0 rfl) ?_
      refine lv_isub hx hb dX2_differenceOf_46 ?_
      refine va_mabs hx hb (hml.trans hl.1.symm) hown (hts _ wM_X2_58) (hts _ wS_Lib_Math_abs_name) (hts _ wZ_J9) (hts _ wC_Lib_Math_abs_name) (Nat.le_of_ble_eq_true rfl) (Nat.le_of_ble_eq_true rfl) (Nat.zero_le _) (Nat.zero_le _) dX2_differenceOf_47 ?_
      cases h_e hM
      exact a_iret C hw dX2_differenceOf_50
  · replace hM := h_t hc hM
    refine lv_iconst (v := (0 : Int32)) hx hb dX2_differenceOf_9 (by decide) ?_
    cases h_e hM
    exact a_iret C hw dX2_differenceOf_10
def rm_X2_showFirst : Room := { frames := 1, cells := 0, slots := 0, locals := 28 }
set_option maxHeartbeats 4000000 in
set_option maxRecDepth 100000 in
theorem tl_X2_showFirst_15 (l : Launch) {p : Program} {e : Env} {s : State} {m : MethodId} {args : Array Value} {below : List Frame} {meth : Method} {c : Code} {D : va_G} {dA : Nat → ClassId} {ad adV : Nat → Nat} {A : Nat → Prop} (C : aX p m c cX2_showFirst 2 s args aTs RX2 meth none) {o : Nat} (ho : aLin o = true) {res : iS} : ∀ (n : Nat) (y1 : Int32) {ι : iS}, l_X2_showFirst_15 o n y1 ι = some res → ∀ {H : Heap} {locs : List Loc} {ls : Array Slot}, aW D dA ad adV (aG ι) A s H locs → lv_has ls 2 [(0, .ref (ad o)), (1, .int y1)] → W p l e rm_X2_showFirst s m args below meth c H locs 0 0 (MQ below (aQ D dA ad (aG res) A none) args s 0 0 A) (F0 m 15 ls []) := by
  have hx := C.1.1
  have hb := C.1.2.1
  have hml := C.1.2.2.1
  have hown := C.1.2.2.2.1
  have hts := C.1.2.2.2.2
  intro n
  induction n with
  | zero => intro y1 ι hM; simp [l_X2_showFirst_15] at hM
  | succ n ih =>
    intro y1 ι hM H locs ls hw hl
    rw [l_X2_showFirst_15] at hM
    refine lv_iload_n hx hb dX2_showFirst_15 rfl (lv_at hl 1 rfl) ?_
    refine lv_aload_n hx hb dX2_showFirst_16 rfl (lv_at hl 0 rfl) ?_
    refine a_geti (σ := aG ι) (o := o) (T := TX2) (N := 11) C wU_X2 hw (aLin_k ho).1 (by decide) rfl 2 (by decide) rfl wF_X2_18 dX2_showFirst_17 ?_
    refine lv_icmp_ge (tgt := 36) hx hb dX2_showFirst_20 (by decide) (fun hc => ?_) (fun hc => ?_)
    · replace hM := h_t hc hM
      cases h_e hM
      exact a_vret C hw dX2_showFirst_36
    · replace hM := h_f hc hM
      refine lv_aload_n hx hb dX2_showFirst_23 rfl (lv_at hl 0 rfl) ?_
      refine a_getp (q := (o + 5)) (σ := aG ι) (o := o) (T := TX2) (N := 11) C wU_X2 hw (aLin_k ho).1 (by decide) rfl 7 (by decide) rfl wF_X2_34 (aLin_p ho ι 4 (by decide)) dX2_showFirst_24 ?_
      refine lv_iload_n hx hb dX2_showFirst_27 rfl (lv_at hl 1 rfl) ?_
      refine lv_iload_n hx hb dX2_showFirst_28 rfl (lv_at hl 1 rfl) ?_
      obtain ⟨hi, hM⟩ := h_i hM
      refine a_iast (σ := aG ι) (o := (o + 5)) C hw (aLin_k ho).2.2.2.2.2.1 hi rfl dX2_showFirst_29 (fun H locs hw => ?_)
      have hw : aW D dA ad adV (aG (pI ι (o + 5) y1.toNatClampNeg y1)) A s H locs := hw
      refine lv_iinc (v := (y1 + 1)) (lv' := [(1, .int (y1 + 1)), (0, .ref (ad o))]) hx hb dX2_showFirst_30 hl (k := 1) rfl rfl (by decide) rfl (fun ls hl => ?_)
      refine lv_goto (tgt := 15) hx hb dX2_showFirst_33 (by decide) ?_
      exact ih ((y1 + 1)) hM hw (lv_sub hl [1, 0] rfl)
theorem k_X2_showFirst : aCal RX2 yX2_showFirst cX2_showFirst 2 none 0 := ⟨wI_yX2_showFirst, wE_yX2_showFirst, wZ_X2, wC_yX2_showFirst, by decide +kernel⟩
set_option maxHeartbeats 4000000 in
set_option maxRecDepth 100000 in
theorem c_X2_showFirst (l : Launch) {o : Nat} (ho : aLin o = true) {ι : iS} {res : iS} (hM : m_X2_showFirst o ι = some res) : aM l yX2_showFirst cX2_showFirst 2 none rm_X2_showFirst (fun ad => [.ref (ad o)]) (aG ι) none (aG res) := by
  refine aM.of (by decide) (fun _ => Nat.le_of_ble_eq_true rfl) ?_
  intro p e s m args below meth c D dA ad adV A ls C hw hl
  have C : aX p m c cX2_showFirst 2 s args aTs RX2 meth none := C
  have hx := C.1.1
  have hb := C.1.2.1
  have hml := C.1.2.2.1
  have hown := C.1.2.2.2.1
  have hts := C.1.2.2.2.2
  have hl : lv_has ls 2 [(0, .ref (ad o))] := hl
  unfold m_X2_showFirst at hM
  refine lv_aload_n hx hb dX2_showFirst_0 rfl (lv_at hl 0 rfl) ?_
  refine lv_aload_n hx hb dX2_showFirst_1 rfl (lv_at hl 0 rfl) ?_
  refine a_geti (σ := aG ι) (o := o) (T := TX2) (N := 11) C wU_X2 hw (aLin_k ho).1 (by decide) rfl 1 (by decide) rfl wF_X2_15 dX2_showFirst_2 ?_
  refine lv_bipush (v := (8 : Int32)) hx hb dX2_showFirst_5 (by decide) ?_
  refine va_mmin hx hb (hml.trans hl.1.symm) hown (hts _ wM_X2_64) (hts _ wS_Lib_Math_min_name) (hts _ wZ_J9) (hts _ wC_Lib_Math_min_name) (Nat.le_of_ble_eq_true rfl) (Nat.le_of_ble_eq_true rfl) (Nat.zero_le _) (Nat.zero_le _) dX2_showFirst_7 ?_
  refine a_puti (ty := .int) (σ := aG ι) (o := o) (T := TX2) (N := 11) (ty0 := tyX2) C wU_X2 tyX2_ok nmX2 hw (aLin_k ho).1 (by decide) rfl 2 (by decide) rfl wF_X2_18 rfl (by decide +kernel) rfl rfl dX2_showFirst_10 (fun H locs hw => ?_)
  have hw : aW D dA ad adV (aG (pI ι o 2 (if (8 : Int32) < (gI ι o 1) then (8 : Int32) else (gI ι o 1)))) A s H locs := hw
  refine lv_iconst (v := (0 : Int32)) hx hb dX2_showFirst_13 (by decide) ?_
  refine lv_istore_n (lv' := [(1, .int (0 : Int32)), (0, .ref (ad o))]) hx hb dX2_showFirst_14 rfl hl (by decide) rfl (fun ls hl => ?_)
  exact tl_X2_showFirst_15 l C ho aF ((0 : Int32)) hM hw (lv_sub hl [1, 0] rfl)
def rm_X2_showLast : Room := { frames := 0, cells := 0, slots := 0, locals := 0 }
theorem k_X2_showLast : aCal RX2 yX2_showLast cX2_showLast 2 none 1 := ⟨wI_yX2_showLast, wE_yX2_showLast, wZ_X2, wC_yX2_showLast, by decide +kernel⟩
set_option maxHeartbeats 4000000 in
set_option maxRecDepth 100000 in
theorem c_X2_showLast (l : Launch) {o : Nat} {x1 : Int32} (ho : aLin o = true) {ι : iS} {res : iS} (hM : m_X2_showLast o x1 ι = some res) : aM l yX2_showLast cX2_showLast 2 none rm_X2_showLast (fun ad => [.ref (ad o), .int x1]) (aG ι) none (aG res) := by
  refine aM.of (by decide) (fun _ => Nat.le_of_ble_eq_true rfl) ?_
  intro p e s m args below meth c D dA ad adV A ls C hw hl
  have C : aX p m c cX2_showLast 2 s args aTs RX2 meth none := C
  have hx := C.1.1
  have hb := C.1.2.1
  have hml := C.1.2.2.1
  have hown := C.1.2.2.2.1
  have hts := C.1.2.2.2.2
  have hl : lv_has ls 2 [(0, .ref (ad o)), (1, .int x1)] := hl
  unfold m_X2_showLast at hM
  refine lv_aload_n hx hb dX2_showLast_0 rfl (lv_at hl 0 rfl) ?_
  refine a_geti (σ := aG ι) (o := o) (T := TX2) (N := 11) C wU_X2 hw (aLin_k ho).1 (by decide) rfl 2 (by decide) rfl wF_X2_18 dX2_showLast_1 ?_
  refine lv_bipush (v := (8 : Int32)) hx hb dX2_showLast_4 (by decide) ?_
  refine lv_icmp_ge (tgt := 29) hx hb dX2_showLast_6 (by decide) (fun hc => ?_) (fun hc => ?_)
  · replace hM := h_t hc hM
    cases h_e hM
    exact a_vret C hw dX2_showLast_29
  · replace hM := h_f hc hM
    refine lv_aload_n hx hb dX2_showLast_9 rfl (lv_at hl 0 rfl) ?_
    refine a_getp (q := (o + 5)) (σ := aG ι) (o := o) (T := TX2) (N := 11) C wU_X2 hw (aLin_k ho).1 (by decide) rfl 7 (by decide) rfl wF_X2_34 (aLin_p ho ι 4 (by decide)) dX2_showLast_10 ?_
    refine lv_aload_n hx hb dX2_showLast_13 rfl (lv_at hl 0 rfl) ?_
    refine a_geti (σ := aG ι) (o := o) (T := TX2) (N := 11) C wU_X2 hw (aLin_k ho).1 (by decide) rfl 2 (by decide) rfl wF_X2_18 dX2_showLast_14 ?_
    refine lv_iload_n hx hb dX2_showLast_17 rfl (lv_at hl 1 rfl) ?_
    obtain ⟨hi, hM⟩ := h_i hM
    refine a_iast (σ := aG ι) (o := (o + 5)) C hw (aLin_k ho).2.2.2.2.2.1 hi rfl dX2_showLast_18 (fun H locs hw => ?_)
    have hw : aW D dA ad adV (aG (pI ι (o + 5) (gI ι o 2).toNatClampNeg x1)) A s H locs := hw
    refine lv_aload_n hx hb dX2_showLast_19 rfl (lv_at hl 0 rfl) ?_
    refine lv_dup hx hb dX2_showLast_20 rfl ?_
    refine a_geti (σ := aG (pI ι (o + 5) (gI ι o 2).toNatClampNeg x1)) (o := o) (T := TX2) (N := 11) C wU_X2 hw (aLin_k ho).1 (by decide) rfl 2 (by decide) rfl wF_X2_18 dX2_showLast_21 ?_
    refine lv_iconst (v := (1 : Int32)) hx hb dX2_showLast_24 (by decide) ?_
    refine lv_iadd hx hb dX2_showLast_25 ?_
    refine a_puti (ty := .int) (σ := aG (pI ι (o + 5) (gI ι o 2).toNatClampNeg x1)) (o := o) (T := TX2) (N := 11) (ty0 := tyX2) C wU_X2 tyX2_ok nmX2 hw (aLin_k ho).1 (by decide) rfl 2 (by decide) rfl wF_X2_18 rfl (by decide +kernel) rfl rfl dX2_showLast_26 (fun H locs hw => ?_)
    have hw : aW D dA ad adV (aG (pI (pI ι (o + 5) (gI ι o 2).toNatClampNeg x1) o 2 ((gI (pI ι (o + 5) (gI ι o 2).toNatClampNeg x1) o 2) + (1 : Int32)))) A s H locs := hw
    cases h_e hM
    exact a_vret C hw dX2_showLast_29
def rm_X2_hideAt : Room := { frames := 0, cells := 0, slots := 0, locals := 0 }
set_option maxHeartbeats 4000000 in
set_option maxRecDepth 100000 in
theorem tl_X2_hideAt_4 (l : Launch) {p : Program} {e : Env} {s : State} {m : MethodId} {args : Array Value} {below : List Frame} {meth : Method} {c : Code} {D : va_G} {dA : Nat → ClassId} {ad adV : Nat → Nat} {A : Nat → Prop} (C : aX p m c cX2_hideAt 3 s args aTs RX2 meth none) {o : Nat} (ho : aLin o = true) {res : iS} : ∀ (n : Nat) (y1 : Int32) (y2 : Int32) {ι : iS}, l_X2_hideAt_4 o n y1 y2 ι = some res → ∀ {H : Heap} {locs : List Loc} {ls : Array Slot}, aW D dA ad adV (aG ι) A s H locs → lv_has ls 3 [(0, .ref (ad o)), (1, .int y1), (2, .int y2)] → W p l e rm_X2_hideAt s m args below meth c H locs 0 0 (MQ below (aQ D dA ad (aG res) A none) args s 0 0 A) (F0 m 4 ls []) := by
  have hx := C.1.1
  have hb := C.1.2.1
  have hml := C.1.2.2.1
  have hown := C.1.2.2.2.1
  have hts := C.1.2.2.2.2
  intro n
  induction n with
  | zero => intro y1 y2 ι hM; simp [l_X2_hideAt_4] at hM
  | succ n ih =>
    intro y1 y2 ι hM H locs ls hw hl
    rw [l_X2_hideAt_4] at hM
    refine lv_iload_n hx hb dX2_hideAt_4 rfl (lv_at hl 2 rfl) ?_
    refine lv_aload_n hx hb dX2_hideAt_5 rfl (lv_at hl 0 rfl) ?_
    refine a_geti (σ := aG ι) (o := o) (T := TX2) (N := 11) C wU_X2 hw (aLin_k ho).1 (by decide) rfl 2 (by decide) rfl wF_X2_18 dX2_hideAt_6 ?_
    refine lv_icmp_ge (tgt := 32) hx hb dX2_hideAt_9 (by decide) (fun hc => ?_) (fun hc => ?_)
    · replace hM := h_t hc hM
      refine lv_aload_n hx hb dX2_hideAt_32 rfl (lv_at hl 0 rfl) ?_
      refine lv_dup hx hb dX2_hideAt_33 rfl ?_
      refine a_geti (σ := aG ι) (o := o) (T := TX2) (N := 11) C wU_X2 hw (aLin_k ho).1 (by decide) rfl 2 (by decide) rfl wF_X2_18 dX2_hideAt_34 ?_
      refine lv_iconst (v := (1 : Int32)) hx hb dX2_hideAt_37 (by decide) ?_
      refine lv_isub hx hb dX2_hideAt_38 ?_
      refine a_puti (ty := .int) (σ := aG ι) (o := o) (T := TX2) (N := 11) (ty0 := tyX2) C wU_X2 tyX2_ok nmX2 hw (aLin_k ho).1 (by decide) rfl 2 (by decide) rfl wF_X2_18 rfl (by decide +kernel) rfl rfl dX2_hideAt_39 (fun H locs hw => ?_)
      have hw : aW D dA ad adV (aG (pI ι o 2 ((gI ι o 2) - (1 : Int32)))) A s H locs := hw
      cases h_e hM
      exact a_vret C hw dX2_hideAt_42
    · replace hM := h_f hc hM
      refine lv_aload_n hx hb dX2_hideAt_12 rfl (lv_at hl 0 rfl) ?_
      refine a_getp (q := (o + 5)) (σ := aG ι) (o := o) (T := TX2) (N := 11) C wU_X2 hw (aLin_k ho).1 (by decide) rfl 7 (by decide) rfl wF_X2_34 (aLin_p ho ι 4 (by decide)) dX2_hideAt_13 ?_
      refine lv_iload_n hx hb dX2_hideAt_16 rfl (lv_at hl 2 rfl) ?_
      refine lv_iconst (v := (1 : Int32)) hx hb dX2_hideAt_17 (by decide) ?_
      refine lv_isub hx hb dX2_hideAt_18 ?_
      refine lv_aload_n hx hb dX2_hideAt_19 rfl (lv_at hl 0 rfl) ?_
      refine a_getp (q := (o + 5)) (σ := aG ι) (o := o) (T := TX2) (N := 11) C wU_X2 hw (aLin_k ho).1 (by decide) rfl 7 (by decide) rfl wF_X2_34 (aLin_p ho ι 4 (by decide)) dX2_hideAt_20 ?_
      refine lv_iload_n hx hb dX2_hideAt_23 rfl (lv_at hl 2 rfl) ?_
      obtain ⟨hi, hM⟩ := h_i hM
      refine a_iald (σ := aG ι) (o := (o + 5)) C hw (aLin_k ho).2.2.2.2.2.1 hi rfl dX2_hideAt_24 ?_
      obtain ⟨hi, hM⟩ := h_i hM
      refine a_iast (σ := aG ι) (o := (o + 5)) C hw (aLin_k ho).2.2.2.2.2.1 hi rfl dX2_hideAt_25 (fun H locs hw => ?_)
      have hw : aW D dA ad adV (aG (pI ι (o + 5) (y2 - (1 : Int32)).toNatClampNeg (gI ι (o + 5) y2.toNatClampNeg))) A s H locs := hw
      refine lv_iinc (v := (y2 + 1)) (lv' := [(2, .int (y2 + 1)), (0, .ref (ad o)), (1, .int y1)]) hx hb dX2_hideAt_26 hl (k := 2) rfl rfl (by decide) rfl (fun ls hl => ?_)
      refine lv_goto (tgt := 4) hx hb dX2_hideAt_29 (by decide) ?_
      exact ih (y1) ((y2 + 1)) hM hw (lv_sub hl [1, 2, 0] rfl)
theorem k_X2_hideAt : aCal RX2 yX2_hideAt cX2_hideAt 3 none 1 := ⟨wI_yX2_hideAt, wE_yX2_hideAt, wZ_X2, wC_yX2_hideAt, by decide +kernel⟩
set_option maxHeartbeats 4000000 in
set_option maxRecDepth 100000 in
theorem c_X2_hideAt (l : Launch) {o : Nat} {x1 : Int32} (ho : aLin o = true) {ι : iS} {res : iS} (hM : m_X2_hideAt o x1 ι = some res) : aM l yX2_hideAt cX2_hideAt 3 none rm_X2_hideAt (fun ad => [.ref (ad o), .int x1]) (aG ι) none (aG res) := by
  refine aM.of (by decide) (fun _ => Nat.le_of_ble_eq_true rfl) ?_
  intro p e s m args below meth c D dA ad adV A ls C hw hl
  have C : aX p m c cX2_hideAt 3 s args aTs RX2 meth none := C
  have hx := C.1.1
  have hb := C.1.2.1
  have hml := C.1.2.2.1
  have hown := C.1.2.2.2.1
  have hts := C.1.2.2.2.2
  have hl : lv_has ls 3 [(0, .ref (ad o)), (1, .int x1)] := hl
  unfold m_X2_hideAt at hM
  refine lv_iload_n hx hb dX2_hideAt_0 rfl (lv_at hl 1 rfl) ?_
  refine lv_iconst (v := (1 : Int32)) hx hb dX2_hideAt_1 (by decide) ?_
  refine lv_iadd hx hb dX2_hideAt_2 ?_
  refine lv_istore_n (lv' := [(2, .int (x1 + (1 : Int32))), (0, .ref (ad o)), (1, .int x1)]) hx hb dX2_hideAt_3 rfl hl (by decide) rfl (fun ls hl => ?_)
  exact tl_X2_hideAt_4 l C ho aF (x1) ((x1 + (1 : Int32))) hM hw (lv_sub hl [1, 2, 0] rfl)
def rm_X2_allMockPicks : Room := { frames := 0, cells := 0, slots := 0, locals := 0 }
set_option maxHeartbeats 4000000 in
set_option maxRecDepth 100000 in
theorem tl_X2_allMockPicks_4 (l : Launch) {p : Program} {e : Env} {s : State} {m : MethodId} {args : Array Value} {below : List Frame} {meth : Method} {c : Code} {D : va_G} {dA : Nat → ClassId} {ad adV : Nat → Nat} {A : Nat → Prop} (C : aX p m c cX2_allMockPicks 3 s args aTs RX2 meth (some .int)) {o : Nat} (ho : aLin o = true) {res : Int32 × iS} : ∀ (n : Nat) (y1 : Int32) (y2 : Int32) {ι : iS}, l_X2_allMockPicks_4 o n y1 y2 ι = some res → ∀ {H : Heap} {locs : List Loc} {ls : Array Slot}, aW D dA ad adV (aG ι) A s H locs → lv_has ls 3 [(0, .ref (ad o)), (1, .int y1), (2, .int y2)] → W p l e rm_X2_allMockPicks s m args below meth c H locs 0 0 (MQ below (aQ D dA ad (aG res.2) A (some (.int res.1))) args s 0 0 A) (F0 m 4 ls []) := by
  have hx := C.1.1
  have hb := C.1.2.1
  have hml := C.1.2.2.1
  have hown := C.1.2.2.2.1
  have hts := C.1.2.2.2.2
  intro n
  induction n with
  | zero => intro y1 y2 ι hM; simp [l_X2_allMockPicks_4] at hM
  | succ n ih =>
    intro y1 y2 ι hM H locs ls hw hl
    rw [l_X2_allMockPicks_4] at hM
    refine lv_iload_n hx hb dX2_allMockPicks_4 rfl (lv_at hl 2 rfl) ?_
    refine lv_aload_n hx hb dX2_allMockPicks_5 rfl (lv_at hl 0 rfl) ?_
    refine a_geti (σ := aG ι) (o := o) (T := TX2) (N := 11) C wU_X2 hw (aLin_k ho).1 (by decide) rfl 1 (by decide) rfl wF_X2_15 dX2_allMockPicks_6 ?_
    refine lv_icmp_ge (tgt := 27) hx hb dX2_allMockPicks_9 (by decide) (fun hc => ?_) (fun hc => ?_)
    · replace hM := h_t hc hM
      refine lv_iload_n hx hb dX2_allMockPicks_27 rfl (lv_at hl 1 rfl) ?_
      cases h_e hM
      exact a_iret C hw dX2_allMockPicks_28
    · replace hM := h_f hc hM
      refine lv_iload_n hx hb dX2_allMockPicks_12 rfl (lv_at hl 1 rfl) ?_
      refine lv_aload_n hx hb dX2_allMockPicks_13 rfl (lv_at hl 0 rfl) ?_
      refine a_getp (q := (o + 6)) (σ := aG ι) (o := o) (T := TX2) (N := 11) C wU_X2 hw (aLin_k ho).1 (by decide) rfl 8 (by decide) rfl wF_X2_37 (aLin_p ho ι 5 (by decide)) dX2_allMockPicks_14 ?_
      refine lv_iload_n hx hb dX2_allMockPicks_17 rfl (lv_at hl 2 rfl) ?_
      obtain ⟨hi, hM⟩ := h_i hM
      refine a_iald (σ := aG ι) (o := (o + 6)) C hw (aLin_k ho).2.2.2.2.2.2.1 hi rfl dX2_allMockPicks_18 ?_
      refine lv_iadd hx hb dX2_allMockPicks_19 ?_
      refine lv_istore_n (lv' := [(1, .int (y1 + (gI ι (o + 6) y2.toNatClampNeg))), (0, .ref (ad o)), (2, .int y2)]) hx hb dX2_allMockPicks_20 rfl hl (by decide) rfl (fun ls hl => ?_)
      refine lv_iinc (v := (y2 + 1)) (lv' := [(2, .int (y2 + 1)), (1, .int (y1 + (gI ι (o + 6) y2.toNatClampNeg))), (0, .ref (ad o))]) hx hb dX2_allMockPicks_21 hl (k := 2) rfl rfl (by decide) rfl (fun ls hl => ?_)
      refine lv_goto (tgt := 4) hx hb dX2_allMockPicks_24 (by decide) ?_
      exact ih ((y1 + (gI ι (o + 6) y2.toNatClampNeg))) ((y2 + 1)) hM hw (lv_sub hl [2, 1, 0] rfl)
theorem k_X2_allMockPicks : aCal RX2 yX2_allMockPicks cX2_allMockPicks 3 (some .int) 0 := ⟨wI_yX2_allMockPicks, wE_yX2_allMockPicks, wZ_X2, wC_yX2_allMockPicks, by decide +kernel⟩
set_option maxHeartbeats 4000000 in
set_option maxRecDepth 100000 in
theorem c_X2_allMockPicks (l : Launch) {o : Nat} (ho : aLin o = true) {ι : iS} {res : Int32 × iS} (hM : m_X2_allMockPicks o ι = some res) : aM l yX2_allMockPicks cX2_allMockPicks 3 (some .int) rm_X2_allMockPicks (fun ad => [.ref (ad o)]) (aG ι) (some (.int res.1)) (aG res.2) := by
  refine aM.of (by decide) (fun _ => Nat.le_of_ble_eq_true rfl) ?_
  intro p e s m args below meth c D dA ad adV A ls C hw hl
  have C : aX p m c cX2_allMockPicks 3 s args aTs RX2 meth (some .int) := C
  have hx := C.1.1
  have hb := C.1.2.1
  have hml := C.1.2.2.1
  have hown := C.1.2.2.2.1
  have hts := C.1.2.2.2.2
  have hl : lv_has ls 3 [(0, .ref (ad o))] := hl
  unfold m_X2_allMockPicks at hM
  refine lv_iconst (v := (0 : Int32)) hx hb dX2_allMockPicks_0 (by decide) ?_
  refine lv_istore_n (lv' := [(1, .int (0 : Int32)), (0, .ref (ad o))]) hx hb dX2_allMockPicks_1 rfl hl (by decide) rfl (fun ls hl => ?_)
  refine lv_iconst (v := (0 : Int32)) hx hb dX2_allMockPicks_2 (by decide) ?_
  refine lv_istore_n (lv' := [(2, .int (0 : Int32)), (1, .int (0 : Int32)), (0, .ref (ad o))]) hx hb dX2_allMockPicks_3 rfl hl (by decide) rfl (fun ls hl => ?_)
  exact tl_X2_allMockPicks_4 l C ho aF ((0 : Int32)) ((0 : Int32)) hM hw (lv_sub hl [2, 1, 0] rfl)
def rm_X2_clear : Room := { frames := 0, cells := 0, slots := 0, locals := 0 }
set_option maxHeartbeats 4000000 in
set_option maxRecDepth 100000 in
theorem tl_X2_clear_68 (l : Launch) {p : Program} {e : Env} {s : State} {m : MethodId} {args : Array Value} {below : List Frame} {meth : Method} {c : Code} {D : va_G} {dA : Nat → ClassId} {ad adV : Nat → Nat} {A : Nat → Prop} (C : aX p m c cX2_clear 2 s args aTs RX2 meth none) {o : Nat} (ho : aLin o = true) {res : iS} : ∀ (n : Nat) (y1 : Int32) {ι : iS}, l_X2_clear_68 o n y1 ι = some res → ∀ {H : Heap} {locs : List Loc} {ls : Array Slot}, aW D dA ad adV (aG ι) A s H locs → lv_has ls 2 [(0, .ref (ad o)), (1, .int y1)] → W p l e rm_X2_clear s m args below meth c H locs 0 0 (MQ below (aQ D dA ad (aG res) A none) args s 0 0 A) (F0 m 68 ls []) := by
  have hx := C.1.1
  have hb := C.1.2.1
  have hml := C.1.2.2.1
  have hown := C.1.2.2.2.1
  have hts := C.1.2.2.2.2
  intro n
  induction n with
  | zero => intro y1 ι hM; simp [l_X2_clear_68] at hM
  | succ n ih =>
    intro y1 ι hM H locs ls hw hl
    rw [l_X2_clear_68] at hM
    refine lv_iload_n hx hb dX2_clear_68 rfl (lv_at hl 1 rfl) ?_
    refine lv_bipush (v := (16 : Int32)) hx hb dX2_clear_69 (by decide) ?_
    refine lv_icmp_ge (tgt := 87) hx hb dX2_clear_71 (by decide) (fun hc => ?_) (fun hc => ?_)
    · replace hM := h_t hc hM
      cases h_e hM
      exact a_vret C hw dX2_clear_87
    · replace hM := h_f hc hM
      refine lv_aload_n hx hb dX2_clear_74 rfl (lv_at hl 0 rfl) ?_
      refine a_getp (q := (o + 6)) (σ := aG ι) (o := o) (T := TX2) (N := 11) C wU_X2 hw (aLin_k ho).1 (by decide) rfl 8 (by decide) rfl wF_X2_37 (aLin_p ho ι 5 (by decide)) dX2_clear_75 ?_
      refine lv_iload_n hx hb dX2_clear_78 rfl (lv_at hl 1 rfl) ?_
      refine lv_iconst (v := (0 : Int32)) hx hb dX2_clear_79 (by decide) ?_
      obtain ⟨hi, hM⟩ := h_i hM
      refine a_iast (σ := aG ι) (o := (o + 6)) C hw (aLin_k ho).2.2.2.2.2.2.1 hi rfl dX2_clear_80 (fun H locs hw => ?_)
      have hw : aW D dA ad adV (aG (pI ι (o + 6) y1.toNatClampNeg (0 : Int32))) A s H locs := hw
      refine lv_iinc (v := (y1 + 1)) (lv' := [(1, .int (y1 + 1)), (0, .ref (ad o))]) hx hb dX2_clear_81 hl (k := 1) rfl rfl (by decide) rfl (fun ls hl => ?_)
      refine lv_goto (tgt := 68) hx hb dX2_clear_84 (by decide) ?_
      exact ih ((y1 + 1)) hM hw (lv_sub hl [1, 0] rfl)
set_option maxHeartbeats 4000000 in
set_option maxRecDepth 100000 in
theorem tl_X2_clear_44 (l : Launch) {p : Program} {e : Env} {s : State} {m : MethodId} {args : Array Value} {below : List Frame} {meth : Method} {c : Code} {D : va_G} {dA : Nat → ClassId} {ad adV : Nat → Nat} {A : Nat → Prop} (C : aX p m c cX2_clear 2 s args aTs RX2 meth none) {o : Nat} (ho : aLin o = true) {res : iS} : ∀ (n : Nat) (y1 : Int32) {ι : iS}, l_X2_clear_44 o n y1 ι = some res → ∀ {H : Heap} {locs : List Loc} {ls : Array Slot}, aW D dA ad adV (aG ι) A s H locs → lv_has ls 2 [(0, .ref (ad o)), (1, .int y1)] → W p l e rm_X2_clear s m args below meth c H locs 0 0 (MQ below (aQ D dA ad (aG res) A none) args s 0 0 A) (F0 m 44 ls []) := by
  have hx := C.1.1
  have hb := C.1.2.1
  have hml := C.1.2.2.1
  have hown := C.1.2.2.2.1
  have hts := C.1.2.2.2.2
  intro n
  induction n with
  | zero => intro y1 ι hM; simp [l_X2_clear_44] at hM
  | succ n ih =>
    intro y1 ι hM H locs ls hw hl
    rw [l_X2_clear_44] at hM
    refine lv_iload_n hx hb dX2_clear_44 rfl (lv_at hl 1 rfl) ?_
    refine lv_iconst (v := (4 : Int32)) hx hb dX2_clear_45 (by decide) ?_
    refine lv_icmp_ge (tgt := 66) hx hb dX2_clear_46 (by decide) (fun hc => ?_) (fun hc => ?_)
    · replace hM := h_t hc hM
      refine lv_iconst (v := (0 : Int32)) hx hb dX2_clear_66 (by decide) ?_
      refine lv_istore_n (lv' := [(1, .int (0 : Int32)), (0, .ref (ad o))]) hx hb dX2_clear_67 rfl hl (by decide) rfl (fun ls hl => ?_)
      exact tl_X2_clear_68 l C ho aF ((0 : Int32)) hM hw (lv_sub hl [1, 0] rfl)
    · replace hM := h_f hc hM
      refine lv_aload_n hx hb dX2_clear_49 rfl (lv_at hl 0 rfl) ?_
      refine a_getp (q := (o + 4)) (σ := aG ι) (o := o) (T := TX2) (N := 11) C wU_X2 hw (aLin_k ho).1 (by decide) rfl 6 (by decide) rfl wF_X2_31 (aLin_p ho ι 3 (by decide)) dX2_clear_50 ?_
      refine lv_iload_n hx hb dX2_clear_53 rfl (lv_at hl 1 rfl) ?_
      refine a_getsN (j := 2) C hw (by decide) (by decide) dX2_clear_54 ?_
      refine lv_iload_n hx hb dX2_clear_57 rfl (lv_at hl 1 rfl) ?_
      obtain ⟨hi, hM⟩ := h_i hM
      refine a_ti (j := 2) C hw (by decide) hi rfl dX2_clear_58 ?_
      obtain ⟨hi, hM⟩ := h_i hM
      refine a_iast (σ := aG ι) (o := (o + 4)) C hw (aLin_k ho).2.2.2.2.1 hi rfl dX2_clear_59 (fun H locs hw => ?_)
      have hw : aW D dA ad adV (aG (pI ι (o + 4) y1.toNatClampNeg (aSt 2 y1.toNatClampNeg))) A s H locs := hw
      refine lv_iinc (v := (y1 + 1)) (lv' := [(1, .int (y1 + 1)), (0, .ref (ad o))]) hx hb dX2_clear_60 hl (k := 1) rfl rfl (by decide) rfl (fun ls hl => ?_)
      refine lv_goto (tgt := 44) hx hb dX2_clear_63 (by decide) ?_
      exact ih ((y1 + 1)) hM hw (lv_sub hl [1, 0] rfl)
set_option maxHeartbeats 4000000 in
set_option maxRecDepth 100000 in
theorem tl_X2_clear_17 (l : Launch) {p : Program} {e : Env} {s : State} {m : MethodId} {args : Array Value} {below : List Frame} {meth : Method} {c : Code} {D : va_G} {dA : Nat → ClassId} {ad adV : Nat → Nat} {A : Nat → Prop} (C : aX p m c cX2_clear 2 s args aTs RX2 meth none) {o : Nat} (ho : aLin o = true) {res : iS} : ∀ (n : Nat) (y1 : Int32) {ι : iS}, l_X2_clear_17 o n y1 ι = some res → ∀ {H : Heap} {locs : List Loc} {ls : Array Slot}, aW D dA ad adV (aG ι) A s H locs → lv_has ls 2 [(0, .ref (ad o)), (1, .int y1)] → W p l e rm_X2_clear s m args below meth c H locs 0 0 (MQ below (aQ D dA ad (aG res) A none) args s 0 0 A) (F0 m 17 ls []) := by
  have hx := C.1.1
  have hb := C.1.2.1
  have hml := C.1.2.2.1
  have hown := C.1.2.2.2.1
  have hts := C.1.2.2.2.2
  intro n
  induction n with
  | zero => intro y1 ι hM; simp [l_X2_clear_17] at hM
  | succ n ih =>
    intro y1 ι hM H locs ls hw hl
    rw [l_X2_clear_17] at hM
    refine lv_iload_n hx hb dX2_clear_17 rfl (lv_at hl 1 rfl) ?_
    refine lv_iconst (v := (5 : Int32)) hx hb dX2_clear_18 (by decide) ?_
    refine lv_icmp_ge (tgt := 42) hx hb dX2_clear_19 (by decide) (fun hc => ?_) (fun hc => ?_)
    · replace hM := h_t hc hM
      refine lv_iconst (v := (0 : Int32)) hx hb dX2_clear_42 (by decide) ?_
      refine lv_istore_n (lv' := [(1, .int (0 : Int32)), (0, .ref (ad o))]) hx hb dX2_clear_43 rfl hl (by decide) rfl (fun ls hl => ?_)
      exact tl_X2_clear_44 l C ho aF ((0 : Int32)) hM hw (lv_sub hl [1, 0] rfl)
    · replace hM := h_f hc hM
      refine lv_aload_n hx hb dX2_clear_22 rfl (lv_at hl 0 rfl) ?_
      refine a_getp (q := (o + 2)) (σ := aG ι) (o := o) (T := TX2) (N := 11) C wU_X2 hw (aLin_k ho).1 (by decide) rfl 4 (by decide) rfl wF_X2_25 (aLin_p ho ι 1 (by decide)) dX2_clear_23 ?_
      refine lv_iload_n hx hb dX2_clear_26 rfl (lv_at hl 1 rfl) ?_
      refine lv_iconst (v := (-1 : Int32)) hx hb dX2_clear_27 (by decide) ?_
      obtain ⟨hi, hM⟩ := h_i hM
      refine a_iast (σ := aG ι) (o := (o + 2)) C hw (aLin_k ho).2.2.1 hi rfl dX2_clear_28 (fun H locs hw => ?_)
      have hw : aW D dA ad adV (aG (pI ι (o + 2) y1.toNatClampNeg (-1 : Int32))) A s H locs := hw
      refine lv_aload_n hx hb dX2_clear_29 rfl (lv_at hl 0 rfl) ?_
      refine a_getp (q := (o + 3)) (σ := aG (pI ι (o + 2) y1.toNatClampNeg (-1 : Int32))) (o := o) (T := TX2) (N := 11) C wU_X2 hw (aLin_k ho).1 (by decide) rfl 5 (by decide) rfl wF_X2_28 (aLin_p ho (pI ι (o + 2) y1.toNatClampNeg (-1 : Int32)) 2 (by decide)) dX2_clear_30 ?_
      refine lv_iload_n hx hb dX2_clear_33 rfl (lv_at hl 1 rfl) ?_
      refine lv_iconst (v := (0 : Int32)) hx hb dX2_clear_34 (by decide) ?_
      obtain ⟨hi, hM⟩ := h_i hM
      refine a_iast (σ := aG (pI ι (o + 2) y1.toNatClampNeg (-1 : Int32))) (o := (o + 3)) C hw (aLin_k ho).2.2.2.1 hi rfl dX2_clear_35 (fun H locs hw => ?_)
      have hw : aW D dA ad adV (aG (pI (pI ι (o + 2) y1.toNatClampNeg (-1 : Int32)) (o + 3) y1.toNatClampNeg (0 : Int32))) A s H locs := hw
      refine lv_iinc (v := (y1 + 1)) (lv' := [(1, .int (y1 + 1)), (0, .ref (ad o))]) hx hb dX2_clear_36 hl (k := 1) rfl rfl (by decide) rfl (fun ls hl => ?_)
      refine lv_goto (tgt := 17) hx hb dX2_clear_39 (by decide) ?_
      exact ih ((y1 + 1)) hM hw (lv_sub hl [1, 0] rfl)
theorem k_X2_clear : aCal RX2 yX2_clear cX2_clear 2 none 0 := ⟨wI_yX2_clear, wE_yX2_clear, wZ_X2, wC_yX2_clear, by decide +kernel⟩
set_option maxHeartbeats 4000000 in
set_option maxRecDepth 100000 in
theorem c_X2_clear (l : Launch) {o : Nat} (ho : aLin o = true) {ι : iS} {res : iS} (hM : m_X2_clear o ι = some res) : aM l yX2_clear cX2_clear 2 none rm_X2_clear (fun ad => [.ref (ad o)]) (aG ι) none (aG res) := by
  refine aM.of (by decide) (fun _ => Nat.le_of_ble_eq_true rfl) ?_
  intro p e s m args below meth c D dA ad adV A ls C hw hl
  have C : aX p m c cX2_clear 2 s args aTs RX2 meth none := C
  have hx := C.1.1
  have hb := C.1.2.1
  have hml := C.1.2.2.1
  have hown := C.1.2.2.2.1
  have hts := C.1.2.2.2.2
  have hl : lv_has ls 2 [(0, .ref (ad o))] := hl
  unfold m_X2_clear at hM
  refine lv_aload_n hx hb dX2_clear_0 rfl (lv_at hl 0 rfl) ?_
  refine lv_iconst (v := (0 : Int32)) hx hb dX2_clear_1 (by decide) ?_
  refine a_puti (ty := .int) (σ := aG ι) (o := o) (T := TX2) (N := 11) (ty0 := tyX2) C wU_X2 tyX2_ok nmX2 hw (aLin_k ho).1 (by decide) rfl 0 (by decide) rfl wF_X2_9 rfl (by decide +kernel) rfl rfl dX2_clear_2 (fun H locs hw => ?_)
  have hw : aW D dA ad adV (aG (pI ι o 0 (0 : Int32))) A s H locs := hw
  refine lv_aload_n hx hb dX2_clear_5 rfl (lv_at hl 0 rfl) ?_
  refine lv_iconst (v := (1 : Int32)) hx hb dX2_clear_6 (by decide) ?_
  refine a_puti (ty := .int) (σ := aG (pI ι o 0 (0 : Int32))) (o := o) (T := TX2) (N := 11) (ty0 := tyX2) C wU_X2 tyX2_ok nmX2 hw (aLin_k ho).1 (by decide) rfl 1 (by decide) rfl wF_X2_15 rfl (by decide +kernel) rfl rfl dX2_clear_7 (fun H locs hw => ?_)
  have hw : aW D dA ad adV (aG (pI (pI ι o 0 (0 : Int32)) o 1 (1 : Int32))) A s H locs := hw
  refine lv_aload_n hx hb dX2_clear_10 rfl (lv_at hl 0 rfl) ?_
  refine lv_iconst (v := (0 : Int32)) hx hb dX2_clear_11 (by decide) ?_
  refine a_puti (ty := .int) (σ := aG (pI (pI ι o 0 (0 : Int32)) o 1 (1 : Int32))) (o := o) (T := TX2) (N := 11) (ty0 := tyX2) C wU_X2 tyX2_ok nmX2 hw (aLin_k ho).1 (by decide) rfl 2 (by decide) rfl wF_X2_18 rfl (by decide +kernel) rfl rfl dX2_clear_12 (fun H locs hw => ?_)
  have hw : aW D dA ad adV (aG (pI (pI (pI ι o 0 (0 : Int32)) o 1 (1 : Int32)) o 2 (0 : Int32))) A s H locs := hw
  refine lv_iconst (v := (0 : Int32)) hx hb dX2_clear_15 (by decide) ?_
  refine lv_istore_n (lv' := [(1, .int (0 : Int32)), (0, .ref (ad o))]) hx hb dX2_clear_16 rfl hl (by decide) rfl (fun ls hl => ?_)
  exact tl_X2_clear_17 l C ho aF ((0 : Int32)) hM hw (lv_sub hl [1, 0] rfl)
def rm_X2_copyFrom : Room := { frames := 1, cells := 0, slots := 0, locals := 60 }
theorem k_X2_copyFrom : aCal RX2 yX2_copyFrom cX2_copyFrom 2 none 1 := ⟨wI_yX2_copyFrom, wE_yX2_copyFrom, wZ_X2, wC_yX2_copyFrom, by decide +kernel⟩
set_option maxHeartbeats 4000000 in
set_option maxRecDepth 100000 in
theorem c_X2_copyFrom (l : Launch) {o : Nat} {x1 : Nat} (ho : aLin o = true) (hx1 : aLin x1 = true) {ι : iS} {res : iS} (hM : m_X2_copyFrom o x1 ι = some res) : aM l yX2_copyFrom cX2_copyFrom 2 none rm_X2_copyFrom (fun ad => [.ref (ad o), .ref (ad x1)]) (aG ι) none (aG res) := by
  refine aM.of (by decide) (fun _ => Nat.le_of_ble_eq_true rfl) ?_
  intro p e s m args below meth c D dA ad adV A ls C hw hl
  have C : aX p m c cX2_copyFrom 2 s args aTs RX2 meth none := C
  have hx := C.1.1
  have hb := C.1.2.1
  have hml := C.1.2.2.1
  have hown := C.1.2.2.2.1
  have hts := C.1.2.2.2.2
  have hl : lv_has ls 2 [(0, .ref (ad o)), (1, .ref (ad x1))] := hl
  unfold m_X2_copyFrom at hM
  refine lv_aload_n hx hb dX2_copyFrom_0 rfl (lv_at hl 0 rfl) ?_
  refine lv_aload_n hx hb dX2_copyFrom_1 rfl (lv_at hl 1 rfl) ?_
  refine a_geti (σ := aG ι) (o := x1) (T := TX2) (N := 11) C wU_X2 hw (aLin_k hx1).1 (by decide) rfl 0 (by decide) rfl wF_X2_9 dX2_copyFrom_2 ?_
  refine a_puti (ty := .int) (σ := aG ι) (o := o) (T := TX2) (N := 11) (ty0 := tyX2) C wU_X2 tyX2_ok nmX2 hw (aLin_k ho).1 (by decide) rfl 0 (by decide) rfl wF_X2_9 rfl (by decide +kernel) rfl rfl dX2_copyFrom_5 (fun H locs hw => ?_)
  have hw : aW D dA ad adV (aG (pI ι o 0 (gI ι x1 0))) A s H locs := hw
  refine lv_aload_n hx hb dX2_copyFrom_8 rfl (lv_at hl 0 rfl) ?_
  refine lv_aload_n hx hb dX2_copyFrom_9 rfl (lv_at hl 1 rfl) ?_
  refine a_geti (σ := aG (pI ι o 0 (gI ι x1 0))) (o := x1) (T := TX2) (N := 11) C wU_X2 hw (aLin_k hx1).1 (by decide) rfl 1 (by decide) rfl wF_X2_15 dX2_copyFrom_10 ?_
  refine a_puti (ty := .int) (σ := aG (pI ι o 0 (gI ι x1 0))) (o := o) (T := TX2) (N := 11) (ty0 := tyX2) C wU_X2 tyX2_ok nmX2 hw (aLin_k ho).1 (by decide) rfl 1 (by decide) rfl wF_X2_15 rfl (by decide +kernel) rfl rfl dX2_copyFrom_13 (fun H locs hw => ?_)
  have hw : aW D dA ad adV (aG (pI (pI ι o 0 (gI ι x1 0)) o 1 (gI (pI ι o 0 (gI ι x1 0)) x1 1))) A s H locs := hw
  refine lv_aload_n hx hb dX2_copyFrom_16 rfl (lv_at hl 0 rfl) ?_
  refine lv_aload_n hx hb dX2_copyFrom_17 rfl (lv_at hl 1 rfl) ?_
  refine a_geti (σ := aG (pI (pI ι o 0 (gI ι x1 0)) o 1 (gI (pI ι o 0 (gI ι x1 0)) x1 1))) (o := x1) (T := TX2) (N := 11) C wU_X2 hw (aLin_k hx1).1 (by decide) rfl 2 (by decide) rfl wF_X2_18 dX2_copyFrom_18 ?_
  refine a_puti (ty := .int) (σ := aG (pI (pI ι o 0 (gI ι x1 0)) o 1 (gI (pI ι o 0 (gI ι x1 0)) x1 1))) (o := o) (T := TX2) (N := 11) (ty0 := tyX2) C wU_X2 tyX2_ok nmX2 hw (aLin_k ho).1 (by decide) rfl 2 (by decide) rfl wF_X2_18 rfl (by decide +kernel) rfl rfl dX2_copyFrom_21 (fun H locs hw => ?_)
  have hw : aW D dA ad adV (aG (pI (pI (pI ι o 0 (gI ι x1 0)) o 1 (gI (pI ι o 0 (gI ι x1 0)) x1 1)) o 2 (gI (pI (pI ι o 0 (gI ι x1 0)) o 1 (gI (pI ι o 0 (gI ι x1 0)) x1 1)) x1 2))) A s H locs := hw
  refine lv_aload_n hx hb dX2_copyFrom_24 rfl (lv_at hl 1 rfl) ?_
  refine a_getp (q := (x1 + 1)) (σ := aG (pI (pI (pI ι o 0 (gI ι x1 0)) o 1 (gI (pI ι o 0 (gI ι x1 0)) x1 1)) o 2 (gI (pI (pI ι o 0 (gI ι x1 0)) o 1 (gI (pI ι o 0 (gI ι x1 0)) x1 1)) x1 2))) (o := x1) (T := TX2) (N := 11) C wU_X2 hw (aLin_k hx1).1 (by decide) rfl 3 (by decide) rfl wF_X2_21 (aLin_p hx1 (pI (pI (pI ι o 0 (gI ι x1 0)) o 1 (gI (pI ι o 0 (gI ι x1 0)) x1 1)) o 2 (gI (pI (pI ι o 0 (gI ι x1 0)) o 1 (gI (pI ι o 0 (gI ι x1 0)) x1 1)) x1 2)) 0 (by decide)) dX2_copyFrom_25 ?_
  refine lv_iconst (v := (0 : Int32)) hx hb dX2_copyFrom_28 (by decide) ?_
  refine lv_aload_n hx hb dX2_copyFrom_29 rfl (lv_at hl 0 rfl) ?_
  refine a_getp (q := (o + 1)) (σ := aG (pI (pI (pI ι o 0 (gI ι x1 0)) o 1 (gI (pI ι o 0 (gI ι x1 0)) x1 1)) o 2 (gI (pI (pI ι o 0 (gI ι x1 0)) o 1 (gI (pI ι o 0 (gI ι x1 0)) x1 1)) x1 2))) (o := o) (T := TX2) (N := 11) C wU_X2 hw (aLin_k ho).1 (by decide) rfl 3 (by decide) rfl wF_X2_21 (aLin_p ho (pI (pI (pI ι o 0 (gI ι x1 0)) o 1 (gI (pI ι o 0 (gI ι x1 0)) x1 1)) o 2 (gI (pI (pI ι o 0 (gI ι x1 0)) o 1 (gI (pI ι o 0 (gI ι x1 0)) x1 1)) x1 2)) 0 (by decide)) dX2_copyFrom_30 ?_
  refine lv_iconst (v := (0 : Int32)) hx hb dX2_copyFrom_33 (by decide) ?_
  refine lv_bipush (v := (80 : Int32)) hx hb dX2_copyFrom_34 (by decide) ?_
  refine a_copy (σ := aG (pI (pI (pI ι o 0 (gI ι x1 0)) o 1 (gI (pI ι o 0 (gI ι x1 0)) x1 1)) o 2 (gI (pI (pI ι o 0 (gI ι x1 0)) o 1 (gI (pI ι o 0 (gI ι x1 0)) x1 1)) x1 2))) (o := (x1 + 1)) (o1 := (o + 1)) C hw wM_X2_52 wN_arraycopyName wS_arraycopyName wZ_J10 (aLin_k hx1).2.1 (aLin_k ho).2.1 (by decide) (by decide) (by decide) (by decide) (by decide) hl (Nat.le_of_ble_eq_true rfl) (by decide +kernel) dX2_copyFrom_36 (fun H locs hw => ?_)
  obtain ⟨ι36, hι36, hM⟩ := h_b hM
  have hw : aW D dA ad adV (aG ι36) A s H locs := by rw [h_e hι36]; exact hw
  refine lv_aload_n hx hb dX2_copyFrom_39 rfl (lv_at hl 1 rfl) ?_
  refine a_getp (q := (x1 + 2)) (σ := aG ι36) (o := x1) (T := TX2) (N := 11) C wU_X2 hw (aLin_k hx1).1 (by decide) rfl 4 (by decide) rfl wF_X2_25 (aLin_p hx1 ι36 1 (by decide)) dX2_copyFrom_40 ?_
  refine lv_iconst (v := (0 : Int32)) hx hb dX2_copyFrom_43 (by decide) ?_
  refine lv_aload_n hx hb dX2_copyFrom_44 rfl (lv_at hl 0 rfl) ?_
  refine a_getp (q := (o + 2)) (σ := aG ι36) (o := o) (T := TX2) (N := 11) C wU_X2 hw (aLin_k ho).1 (by decide) rfl 4 (by decide) rfl wF_X2_25 (aLin_p ho ι36 1 (by decide)) dX2_copyFrom_45 ?_
  refine lv_iconst (v := (0 : Int32)) hx hb dX2_copyFrom_48 (by decide) ?_
  refine lv_iconst (v := (5 : Int32)) hx hb dX2_copyFrom_49 (by decide) ?_
  refine a_copy (σ := aG ι36) (o := (x1 + 2)) (o1 := (o + 2)) C hw wM_X2_52 wN_arraycopyName wS_arraycopyName wZ_J10 (aLin_k hx1).2.2.1 (aLin_k ho).2.2.1 (by decide) (by decide) (by decide) (by decide) (by decide) hl (Nat.le_of_ble_eq_true rfl) (by decide +kernel) dX2_copyFrom_50 (fun H locs hw => ?_)
  obtain ⟨ι50, hι50, hM⟩ := h_b hM
  have hw : aW D dA ad adV (aG ι50) A s H locs := by rw [h_e hι50]; exact hw
  refine lv_aload_n hx hb dX2_copyFrom_53 rfl (lv_at hl 1 rfl) ?_
  refine a_getp (q := (x1 + 3)) (σ := aG ι50) (o := x1) (T := TX2) (N := 11) C wU_X2 hw (aLin_k hx1).1 (by decide) rfl 5 (by decide) rfl wF_X2_28 (aLin_p hx1 ι50 2 (by decide)) dX2_copyFrom_54 ?_
  refine lv_iconst (v := (0 : Int32)) hx hb dX2_copyFrom_57 (by decide) ?_
  refine lv_aload_n hx hb dX2_copyFrom_58 rfl (lv_at hl 0 rfl) ?_
  refine a_getp (q := (o + 3)) (σ := aG ι50) (o := o) (T := TX2) (N := 11) C wU_X2 hw (aLin_k ho).1 (by decide) rfl 5 (by decide) rfl wF_X2_28 (aLin_p ho ι50 2 (by decide)) dX2_copyFrom_59 ?_
  refine lv_iconst (v := (0 : Int32)) hx hb dX2_copyFrom_62 (by decide) ?_
  refine lv_iconst (v := (5 : Int32)) hx hb dX2_copyFrom_63 (by decide) ?_
  refine a_copy (σ := aG ι50) (o := (x1 + 3)) (o1 := (o + 3)) C hw wM_X2_52 wN_arraycopyName wS_arraycopyName wZ_J10 (aLin_k hx1).2.2.2.1 (aLin_k ho).2.2.2.1 (by decide) (by decide) (by decide) (by decide) (by decide) hl (Nat.le_of_ble_eq_true rfl) (by decide +kernel) dX2_copyFrom_64 (fun H locs hw => ?_)
  obtain ⟨ι64, hι64, hM⟩ := h_b hM
  have hw : aW D dA ad adV (aG ι64) A s H locs := by rw [h_e hι64]; exact hw
  refine lv_aload_n hx hb dX2_copyFrom_67 rfl (lv_at hl 1 rfl) ?_
  refine a_getp (q := (x1 + 4)) (σ := aG ι64) (o := x1) (T := TX2) (N := 11) C wU_X2 hw (aLin_k hx1).1 (by decide) rfl 6 (by decide) rfl wF_X2_31 (aLin_p hx1 ι64 3 (by decide)) dX2_copyFrom_68 ?_
  refine lv_iconst (v := (0 : Int32)) hx hb dX2_copyFrom_71 (by decide) ?_
  refine lv_aload_n hx hb dX2_copyFrom_72 rfl (lv_at hl 0 rfl) ?_
  refine a_getp (q := (o + 4)) (σ := aG ι64) (o := o) (T := TX2) (N := 11) C wU_X2 hw (aLin_k ho).1 (by decide) rfl 6 (by decide) rfl wF_X2_31 (aLin_p ho ι64 3 (by decide)) dX2_copyFrom_73 ?_
  refine lv_iconst (v := (0 : Int32)) hx hb dX2_copyFrom_76 (by decide) ?_
  refine lv_iconst (v := (4 : Int32)) hx hb dX2_copyFrom_77 (by decide) ?_
  refine a_copy (σ := aG ι64) (o := (x1 + 4)) (o1 := (o + 4)) C hw wM_X2_52 wN_arraycopyName wS_arraycopyName wZ_J10 (aLin_k hx1).2.2.2.2.1 (aLin_k ho).2.2.2.2.1 (by decide) (by decide) (by decide) (by decide) (by decide) hl (Nat.le_of_ble_eq_true rfl) (by decide +kernel) dX2_copyFrom_78 (fun H locs hw => ?_)
  obtain ⟨ι78, hι78, hM⟩ := h_b hM
  have hw : aW D dA ad adV (aG ι78) A s H locs := by rw [h_e hι78]; exact hw
  refine lv_aload_n hx hb dX2_copyFrom_81 rfl (lv_at hl 1 rfl) ?_
  refine a_getp (q := (x1 + 5)) (σ := aG ι78) (o := x1) (T := TX2) (N := 11) C wU_X2 hw (aLin_k hx1).1 (by decide) rfl 7 (by decide) rfl wF_X2_34 (aLin_p hx1 ι78 4 (by decide)) dX2_copyFrom_82 ?_
  refine lv_iconst (v := (0 : Int32)) hx hb dX2_copyFrom_85 (by decide) ?_
  refine lv_aload_n hx hb dX2_copyFrom_86 rfl (lv_at hl 0 rfl) ?_
  refine a_getp (q := (o + 5)) (σ := aG ι78) (o := o) (T := TX2) (N := 11) C wU_X2 hw (aLin_k ho).1 (by decide) rfl 7 (by decide) rfl wF_X2_34 (aLin_p ho ι78 4 (by decide)) dX2_copyFrom_87 ?_
  refine lv_iconst (v := (0 : Int32)) hx hb dX2_copyFrom_90 (by decide) ?_
  refine lv_bipush (v := (8 : Int32)) hx hb dX2_copyFrom_91 (by decide) ?_
  refine a_copy (σ := aG ι78) (o := (x1 + 5)) (o1 := (o + 5)) C hw wM_X2_52 wN_arraycopyName wS_arraycopyName wZ_J10 (aLin_k hx1).2.2.2.2.2.1 (aLin_k ho).2.2.2.2.2.1 (by decide) (by decide) (by decide) (by decide) (by decide) hl (Nat.le_of_ble_eq_true rfl) (by decide +kernel) dX2_copyFrom_93 (fun H locs hw => ?_)
  obtain ⟨ι93, hι93, hM⟩ := h_b hM
  have hw : aW D dA ad adV (aG ι93) A s H locs := by rw [h_e hι93]; exact hw
  refine lv_aload_n hx hb dX2_copyFrom_96 rfl (lv_at hl 1 rfl) ?_
  refine a_getp (q := (x1 + 6)) (σ := aG ι93) (o := x1) (T := TX2) (N := 11) C wU_X2 hw (aLin_k hx1).1 (by decide) rfl 8 (by decide) rfl wF_X2_37 (aLin_p hx1 ι93 5 (by decide)) dX2_copyFrom_97 ?_
  refine lv_iconst (v := (0 : Int32)) hx hb dX2_copyFrom_100 (by decide) ?_
  refine lv_aload_n hx hb dX2_copyFrom_101 rfl (lv_at hl 0 rfl) ?_
  refine a_getp (q := (o + 6)) (σ := aG ι93) (o := o) (T := TX2) (N := 11) C wU_X2 hw (aLin_k ho).1 (by decide) rfl 8 (by decide) rfl wF_X2_37 (aLin_p ho ι93 5 (by decide)) dX2_copyFrom_102 ?_
  refine lv_iconst (v := (0 : Int32)) hx hb dX2_copyFrom_105 (by decide) ?_
  refine lv_bipush (v := (16 : Int32)) hx hb dX2_copyFrom_106 (by decide) ?_
  refine a_copy (σ := aG ι93) (o := (x1 + 6)) (o1 := (o + 6)) C hw wM_X2_52 wN_arraycopyName wS_arraycopyName wZ_J10 (aLin_k hx1).2.2.2.2.2.2.1 (aLin_k ho).2.2.2.2.2.2.1 (by decide) (by decide) (by decide) (by decide) (by decide) hl (Nat.le_of_ble_eq_true rfl) (by decide +kernel) dX2_copyFrom_108 (fun H locs hw => ?_)
  obtain ⟨ι108, hι108, hM⟩ := h_b hM
  have hw : aW D dA ad adV (aG ι108) A s H locs := by rw [h_e hι108]; exact hw
  refine lv_aload_n hx hb dX2_copyFrom_111 rfl (lv_at hl 1 rfl) ?_
  refine a_getp (q := (x1 + 7)) (σ := aG ι108) (o := x1) (T := TX2) (N := 11) C wU_X2 hw (aLin_k hx1).1 (by decide) rfl 9 (by decide) rfl wF_X2_40 (aLin_p hx1 ι108 6 (by decide)) dX2_copyFrom_112 ?_
  refine lv_iconst (v := (0 : Int32)) hx hb dX2_copyFrom_115 (by decide) ?_
  refine lv_aload_n hx hb dX2_copyFrom_116 rfl (lv_at hl 0 rfl) ?_
  refine a_getp (q := (o + 7)) (σ := aG ι108) (o := o) (T := TX2) (N := 11) C wU_X2 hw (aLin_k ho).1 (by decide) rfl 9 (by decide) rfl wF_X2_40 (aLin_p ho ι108 6 (by decide)) dX2_copyFrom_117 ?_
  refine lv_iconst (v := (0 : Int32)) hx hb dX2_copyFrom_120 (by decide) ?_
  refine lv_bipush (v := (16 : Int32)) hx hb dX2_copyFrom_121 (by decide) ?_
  refine a_copy (σ := aG ι108) (o := (x1 + 7)) (o1 := (o + 7)) C hw wM_X2_52 wN_arraycopyName wS_arraycopyName wZ_J10 (aLin_k hx1).2.2.2.2.2.2.2.1 (aLin_k ho).2.2.2.2.2.2.2.1 (by decide) (by decide) (by decide) (by decide) (by decide) hl (Nat.le_of_ble_eq_true rfl) (by decide +kernel) dX2_copyFrom_123 (fun H locs hw => ?_)
  obtain ⟨ι123, hι123, hM⟩ := h_b hM
  have hw : aW D dA ad adV (aG ι123) A s H locs := by rw [h_e hι123]; exact hw
  refine lv_aload_n hx hb dX2_copyFrom_126 rfl (lv_at hl 1 rfl) ?_
  refine a_getp (q := (x1 + 8)) (σ := aG ι123) (o := x1) (T := TX2) (N := 11) C wU_X2 hw (aLin_k hx1).1 (by decide) rfl 10 (by decide) rfl wF_X2_43 (aLin_p hx1 ι123 7 (by decide)) dX2_copyFrom_127 ?_
  refine lv_iconst (v := (0 : Int32)) hx hb dX2_copyFrom_130 (by decide) ?_
  refine lv_aload_n hx hb dX2_copyFrom_131 rfl (lv_at hl 0 rfl) ?_
  refine a_getp (q := (o + 8)) (σ := aG ι123) (o := o) (T := TX2) (N := 11) C wU_X2 hw (aLin_k ho).1 (by decide) rfl 10 (by decide) rfl wF_X2_43 (aLin_p ho ι123 7 (by decide)) dX2_copyFrom_132 ?_
  refine lv_iconst (v := (0 : Int32)) hx hb dX2_copyFrom_135 (by decide) ?_
  refine lv_bipush (v := (16 : Int32)) hx hb dX2_copyFrom_136 (by decide) ?_
  refine a_copy (σ := aG ι123) (o := (x1 + 8)) (o1 := (o + 8)) C hw wM_X2_52 wN_arraycopyName wS_arraycopyName wZ_J10 (aLin_k hx1).2.2.2.2.2.2.2.2 (aLin_k ho).2.2.2.2.2.2.2.2 (by decide) (by decide) (by decide) (by decide) (by decide) hl (Nat.le_of_ble_eq_true rfl) (by decide +kernel) dX2_copyFrom_138 (fun H locs hw => ?_)
  obtain ⟨ι138, hι138, hM⟩ := h_b hM
  have hw : aW D dA ad adV (aG ι138) A s H locs := by rw [h_e hι138]; exact hw
  cases h_e hM
  exact a_vret C hw dX2_copyFrom_141
