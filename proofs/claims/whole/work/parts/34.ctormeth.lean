theorem linS2 : aLinS 109 [] 2 := ⟨lin2, by decide, fun _ => rfl⟩
set_option maxHeartbeats 4000000 in
set_option maxRecDepth 100000 in
theorem us_X2_clear_68 (l : Launch) {n9 : Nat} {U9 : List (Nat × Nat)} {p : Program} {e : Env} {s : State} {m : MethodId} {args : Array Value} {below : List Frame} {meth : Method} {c : Code} {D : va_G} {dA : Nat → ClassId} {ad adV : Nat → Nat} {A : Nat → Prop} (C : aX p m c cX2_clear 2 s args aTs RX2 meth none) {o : Nat} (ho : aLinS n9 U9 o) {res : iS} : ∀ (n : Nat) (y1 : Int32) {ι : iS}, l_X2_clear_68 o n y1 ι = some res → ∀ {H : Heap} {locs : List Loc} {ls : Array Slot}, aW D dA ad adV (aGs n9 U9 ι) A s H locs → lv_has ls 2 [(0, .ref (ad o)), (1, .int y1)] → W p l e rm_X2_clear s m args below meth c H locs 0 0 (MQ below (aQ D dA ad (aGs n9 U9 res) A none) args s 0 0 A) (F0 m 68 ls []) := by
  have hx := C.1.1
  have hb := C.1.2.1
  have hml := C.1.2.2.1
  have hown := C.1.2.2.2.1
  have hts := C.1.2.2.2.2
  intro n
  induction n with
  | zero => intro y1 ι hM; simp [l_X2_clear_68] at hM
  | succ n ih =>
    intro y1 ι hM H locs ls hw hl
    rw [l_X2_clear_68] at hM
    refine lv_iload_n hx hb dX2_clear_68 rfl (lv_at hl 1 rfl) ?_
    refine lv_bipush (v := (16 : Int32)) hx hb dX2_clear_69 (by decide) ?_
    refine lv_icmp_ge (tgt := 87) hx hb dX2_clear_71 (by decide) (fun hc => ?_) (fun hc => ?_)
    · replace hM := h_t hc hM
      cases h_e hM
      exact a_vret C hw dX2_clear_87
    · replace hM := h_f hc hM
      refine lv_aload_n hx hb dX2_clear_74 rfl (lv_at hl 0 rfl) ?_
      refine a_getp (q := (o + 6)) (σ := aGs n9 U9 ι) (o := o) (T := TX2) (N := 11) C wU_X2 hw (aLinS_k ho).1 (by decide) rfl 8 (by decide) rfl wF_X2_37 (aLinS_p ho ι 5 (by decide)) dX2_clear_75 ?_
      refine lv_iload_n hx hb dX2_clear_78 rfl (lv_at hl 1 rfl) ?_
      refine lv_iconst (v := (0 : Int32)) hx hb dX2_clear_79 (by decide) ?_
      obtain ⟨hi, hM⟩ := h_i hM
      refine a_iast (σ := aGs n9 U9 ι) (o := (o + 6)) C hw (aLinS_k ho).2.2.2.2.2.2.1 hi rfl dX2_clear_80 (fun H locs hw => ?_)
      have hw : aW D dA ad adV (aGs n9 U9 (pI ι (o + 6) y1.toNatClampNeg (0 : Int32))) A s H locs := hw
      refine lv_iinc (v := (y1 + 1)) (lv' := [(1, .int (y1 + 1)), (0, .ref (ad o))]) hx hb dX2_clear_81 hl (k := 1) rfl rfl (by decide) rfl (fun ls hl => ?_)
      refine lv_goto (tgt := 68) hx hb dX2_clear_84 (by decide) ?_
      exact ih ((y1 + 1)) hM hw (lv_sub hl [1, 0] rfl)
set_option maxHeartbeats 4000000 in
set_option maxRecDepth 100000 in
theorem us_X2_clear_44 (l : Launch) {n9 : Nat} {U9 : List (Nat × Nat)} {p : Program} {e : Env} {s : State} {m : MethodId} {args : Array Value} {below : List Frame} {meth : Method} {c : Code} {D : va_G} {dA : Nat → ClassId} {ad adV : Nat → Nat} {A : Nat → Prop} (C : aX p m c cX2_clear 2 s args aTs RX2 meth none) {o : Nat} (ho : aLinS n9 U9 o) {res : iS} : ∀ (n : Nat) (y1 : Int32) {ι : iS}, l_X2_clear_44 o n y1 ι = some res → ∀ {H : Heap} {locs : List Loc} {ls : Array Slot}, aW D dA ad adV (aGs n9 U9 ι) A s H locs → lv_has ls 2 [(0, .ref (ad o)), (1, .int y1)] → W p l e rm_X2_clear s m args below meth c H locs 0 0 (MQ below (aQ D dA ad (aGs n9 U9 res) A none) args s 0 0 A) (F0 m 44 ls []) := by
  have hx := C.1.1
  have hb := C.1.2.1
  have hml := C.1.2.2.1
  have hown := C.1.2.2.2.1
  have hts := C.1.2.2.2.2
  intro n
  induction n with
  | zero => intro y1 ι hM; simp [l_X2_clear_44] at hM
  | succ n ih =>
    intro y1 ι hM H locs ls hw hl
    rw [l_X2_clear_44] at hM
    refine lv_iload_n hx hb dX2_clear_44 rfl (lv_at hl 1 rfl) ?_
    refine lv_iconst (v := (4 : Int32)) hx hb dX2_clear_45 (by decide) ?_
    refine lv_icmp_ge (tgt := 66) hx hb dX2_clear_46 (by decide) (fun hc => ?_) (fun hc => ?_)
    · replace hM := h_t hc hM
      refine lv_iconst (v := (0 : Int32)) hx hb dX2_clear_66 (by decide) ?_
      refine lv_istore_n (lv' := [(1, .int (0 : Int32)), (0, .ref (ad o))]) hx hb dX2_clear_67 rfl hl (by decide) rfl (fun ls hl => ?_)
      exact us_X2_clear_68 l C ho aF ((0 : Int32)) hM hw (lv_sub hl [1, 0] rfl)
    · replace hM := h_f hc hM
      refine lv_aload_n hx hb dX2_clear_49 rfl (lv_at hl 0 rfl) ?_
      refine a_getp (q := (o + 4)) (σ := aGs n9 U9 ι) (o := o) (T := TX2) (N := 11) C wU_X2 hw (aLinS_k ho).1 (by decide) rfl 6 (by decide) rfl wF_X2_31 (aLinS_p ho ι 3 (by decide)) dX2_clear_50 ?_
      refine lv_iload_n hx hb dX2_clear_53 rfl (lv_at hl 1 rfl) ?_
      refine a_getsN (j := 2) C hw (by decide) (by decide) dX2_clear_54 ?_
      refine lv_iload_n hx hb dX2_clear_57 rfl (lv_at hl 1 rfl) ?_
      obtain ⟨hi, hM⟩ := h_i hM
      refine a_ti (j := 2) C hw (by decide) hi rfl dX2_clear_58 ?_
      obtain ⟨hi, hM⟩ := h_i hM
      refine a_iast (σ := aGs n9 U9 ι) (o := (o + 4)) C hw (aLinS_k ho).2.2.2.2.1 hi rfl dX2_clear_59 (fun H locs hw => ?_)
      have hw : aW D dA ad adV (aGs n9 U9 (pI ι (o + 4) y1.toNatClampNeg (aSt 2 y1.toNatClampNeg))) A s H locs := hw
      refine lv_iinc (v := (y1 + 1)) (lv' := [(1, .int (y1 + 1)), (0, .ref (ad o))]) hx hb dX2_clear_60 hl (k := 1) rfl rfl (by decide) rfl (fun ls hl => ?_)
      refine lv_goto (tgt := 44) hx hb dX2_clear_63 (by decide) ?_
      exact ih ((y1 + 1)) hM hw (lv_sub hl [1, 0] rfl)
set_option maxHeartbeats 4000000 in
set_option maxRecDepth 100000 in
theorem us_X2_clear_17 (l : Launch) {n9 : Nat} {U9 : List (Nat × Nat)} {p : Program} {e : Env} {s : State} {m : MethodId} {args : Array Value} {below : List Frame} {meth : Method} {c : Code} {D : va_G} {dA : Nat → ClassId} {ad adV : Nat → Nat} {A : Nat → Prop} (C : aX p m c cX2_clear 2 s args aTs RX2 meth none) {o : Nat} (ho : aLinS n9 U9 o) {res : iS} : ∀ (n : Nat) (y1 : Int32) {ι : iS}, l_X2_clear_17 o n y1 ι = some res → ∀ {H : Heap} {locs : List Loc} {ls : Array Slot}, aW D dA ad adV (aGs n9 U9 ι) A s H locs → lv_has ls 2 [(0, .ref (ad o)), (1, .int y1)] → W p l e rm_X2_clear s m args below meth c H locs 0 0 (MQ below (aQ D dA ad (aGs n9 U9 res) A none) args s 0 0 A) (F0 m 17 ls []) := by
  have hx := C.1.1
  have hb := C.1.2.1
  have hml := C.1.2.2.1
  have hown := C.1.2.2.2.1
  have hts := C.1.2.2.2.2
  intro n
  induction n with
  | zero => intro y1 ι hM; simp [l_X2_clear_17] at hM
  | succ n ih =>
    intro y1 ι hM H locs ls hw hl
    rw [l_X2_clear_17] at hM
    refine lv_iload_n hx hb dX2_clear_17 rfl (lv_at hl 1 rfl) ?_
    refine lv_iconst (v := (5 : Int32)) hx hb dX2_clear_18 (by decide) ?_
    refine lv_icmp_ge (tgt := 42) hx hb dX2_clear_19 (by decide) (fun hc => ?_) (fun hc => ?_)
    · replace hM := h_t hc hM
      refine lv_iconst (v := (0 : Int32)) hx hb dX2_clear_42 (by decide) ?_
      refine lv_istore_n (lv' := [(1, .int (0 : Int32)), (0, .ref (ad o))]) hx hb dX2_clear_43 rfl hl (by decide) rfl (fun ls hl => ?_)
      exact us_X2_clear_44 l C ho aF ((0 : Int32)) hM hw (lv_sub hl [1, 0] rfl)
    · replace hM := h_f hc hM
      refine lv_aload_n hx hb dX2_clear_22 rfl (lv_at hl 0 rfl) ?_
      refine a_getp (q := (o + 2)) (σ := aGs n9 U9 ι) (o := o) (T := TX2) (N := 11) C wU_X2 hw (aLinS_k ho).1 (by decide) rfl 4 (by decide) rfl wF_X2_25 (aLinS_p ho ι 1 (by decide)) dX2_clear_23 ?_
      refine lv_iload_n hx hb dX2_clear_26 rfl (lv_at hl 1 rfl) ?_
      refine lv_iconst (v := (-1 : Int32)) hx hb dX2_clear_27 (by decide) ?_
      obtain ⟨hi, hM⟩ := h_i hM
      refine a_iast (σ := aGs n9 U9 ι) (o := (o + 2)) C hw (aLinS_k ho).2.2.1 hi rfl dX2_clear_28 (fun H locs hw => ?_)
      have hw : aW D dA ad adV (aGs n9 U9 (pI ι (o + 2) y1.toNatClampNeg (-1 : Int32))) A s H locs := hw
      refine lv_aload_n hx hb dX2_clear_29 rfl (lv_at hl 0 rfl) ?_
      refine a_getp (q := (o + 3)) (σ := aGs n9 U9 (pI ι (o + 2) y1.toNatClampNeg (-1 : Int32))) (o := o) (T := TX2) (N := 11) C wU_X2 hw (aLinS_k ho).1 (by decide) rfl 5 (by decide) rfl wF_X2_28 (aLinS_p ho (pI ι (o + 2) y1.toNatClampNeg (-1 : Int32)) 2 (by decide)) dX2_clear_30 ?_
      refine lv_iload_n hx hb dX2_clear_33 rfl (lv_at hl 1 rfl) ?_
      refine lv_iconst (v := (0 : Int32)) hx hb dX2_clear_34 (by decide) ?_
      obtain ⟨hi, hM⟩ := h_i hM
      refine a_iast (σ := aGs n9 U9 (pI ι (o + 2) y1.toNatClampNeg (-1 : Int32))) (o := (o + 3)) C hw (aLinS_k ho).2.2.2.1 hi rfl dX2_clear_35 (fun H locs hw => ?_)
      have hw : aW D dA ad adV (aGs n9 U9 (pI (pI ι (o + 2) y1.toNatClampNeg (-1 : Int32)) (o + 3) y1.toNatClampNeg (0 : Int32))) A s H locs := hw
      refine lv_iinc (v := (y1 + 1)) (lv' := [(1, .int (y1 + 1)), (0, .ref (ad o))]) hx hb dX2_clear_36 hl (k := 1) rfl rfl (by decide) rfl (fun ls hl => ?_)
      refine lv_goto (tgt := 17) hx hb dX2_clear_39 (by decide) ?_
      exact ih ((y1 + 1)) hM hw (lv_sub hl [1, 0] rfl)
set_option maxHeartbeats 4000000 in
set_option maxRecDepth 100000 in
theorem cs_X2_clear (l : Launch) {n9 : Nat} {U9 : List (Nat × Nat)} {o : Nat} (ho : aLinS n9 U9 o) {ι : iS} {res : iS} (hM : m_X2_clear o ι = some res) : aM l yX2_clear cX2_clear 2 none rm_X2_clear (fun ad => [.ref (ad o)]) (aGs n9 U9 ι) none (aGs n9 U9 res) := by
  refine aM.of (by decide) (fun _ => Nat.le_of_ble_eq_true rfl) ?_
  intro p e s m args below meth c D dA ad adV A ls C hw hl
  have C : aX p m c cX2_clear 2 s args aTs RX2 meth none := C
  have hx := C.1.1
  have hb := C.1.2.1
  have hml := C.1.2.2.1
  have hown := C.1.2.2.2.1
  have hts := C.1.2.2.2.2
  have hl : lv_has ls 2 [(0, .ref (ad o))] := hl
  unfold m_X2_clear at hM
  refine lv_aload_n hx hb dX2_clear_0 rfl (lv_at hl 0 rfl) ?_
  refine lv_iconst (v := (0 : Int32)) hx hb dX2_clear_1 (by decide) ?_
  refine a_puti (ty := .int) (σ := aGs n9 U9 ι) (o := o) (T := TX2) (N := 11) (ty0 := tyX2) C wU_X2 tyX2_ok nmX2 hw (aLinS_k ho).1 (by decide) rfl 0 (by decide) rfl wF_X2_9 rfl (by decide +kernel) rfl rfl dX2_clear_2 (fun H locs hw => ?_)
  have hw : aW D dA ad adV (aGs n9 U9 (pI ι o 0 (0 : Int32))) A s H locs := hw
  refine lv_aload_n hx hb dX2_clear_5 rfl (lv_at hl 0 rfl) ?_
  refine lv_iconst (v := (1 : Int32)) hx hb dX2_clear_6 (by decide) ?_
  refine a_puti (ty := .int) (σ := aGs n9 U9 (pI ι o 0 (0 : Int32))) (o := o) (T := TX2) (N := 11) (ty0 := tyX2) C wU_X2 tyX2_ok nmX2 hw (aLinS_k ho).1 (by decide) rfl 1 (by decide) rfl wF_X2_15 rfl (by decide +kernel) rfl rfl dX2_clear_7 (fun H locs hw => ?_)
  have hw : aW D dA ad adV (aGs n9 U9 (pI (pI ι o 0 (0 : Int32)) o 1 (1 : Int32))) A s H locs := hw
  refine lv_aload_n hx hb dX2_clear_10 rfl (lv_at hl 0 rfl) ?_
  refine lv_iconst (v := (0 : Int32)) hx hb dX2_clear_11 (by decide) ?_
  refine a_puti (ty := .int) (σ := aGs n9 U9 (pI (pI ι o 0 (0 : Int32)) o 1 (1 : Int32))) (o := o) (T := TX2) (N := 11) (ty0 := tyX2) C wU_X2 tyX2_ok nmX2 hw (aLinS_k ho).1 (by decide) rfl 2 (by decide) rfl wF_X2_18 rfl (by decide +kernel) rfl rfl dX2_clear_12 (fun H locs hw => ?_)
  have hw : aW D dA ad adV (aGs n9 U9 (pI (pI (pI ι o 0 (0 : Int32)) o 1 (1 : Int32)) o 2 (0 : Int32))) A s H locs := hw
  refine lv_iconst (v := (0 : Int32)) hx hb dX2_clear_15 (by decide) ?_
  refine lv_istore_n (lv' := [(1, .int (0 : Int32)), (0, .ref (ad o))]) hx hb dX2_clear_16 rfl hl (by decide) rfl (fun ls hl => ?_)
  exact us_X2_clear_17 l C ho aF ((0 : Int32)) hM hw (lv_sub hl [1, 0] rfl)
set_option maxHeartbeats 4000000 in
set_option maxRecDepth 100000 in
theorem cs_X2_valueOf (l : Launch) {o : Nat} {x1 : Int32} {x2 : Int32} (ho : aLinS 109 [] o) {ι : iS} {res : Int32 × iS} (hM : m_X2_valueOf o x1 x2 ι = some res) : aM l yX2_valueOf cX2_valueOf 3 (some .int) rm_X2_valueOf (fun ad => [.ref (ad o), .int x1, .int x2]) (aGs 109 [] ι) (some (.int res.1)) (aGs 109 [] res.2) := by
  refine aM.of (by decide) (fun _ => Nat.le_of_ble_eq_true rfl) ?_
  intro p e s m args below meth c D dA ad adV A ls C hw hl
  have C : aX p m c cX2_valueOf 3 s args aTs RX2 meth (some .int) := C
  have hx := C.1.1
  have hb := C.1.2.1
  have hml := C.1.2.2.1
  have hown := C.1.2.2.2.1
  have hts := C.1.2.2.2.2
  have hl : lv_has ls 3 [(0, .ref (ad o)), (1, .int x1), (2, .int x2)] := hl
  unfold m_X2_valueOf at hM
  refine lv_aload_n hx hb dX2_valueOf_0 rfl (lv_at hl 0 rfl) ?_
  refine a_getp (q := (o + 1)) (σ := aGs 109 [] ι) (o := o) (T := TX2) (N := 11) C wU_X2 hw (aLinS_k ho).1 (by decide) rfl 3 (by decide) rfl wF_X2_21 (aLinS_p ho ι 0 (by decide)) dX2_valueOf_1 ?_
  refine lv_iload_n hx hb dX2_valueOf_4 rfl (lv_at hl 1 rfl) ?_
  refine lv_iconst (v := (5 : Int32)) hx hb dX2_valueOf_5 (by decide) ?_
  refine lv_imul hx hb dX2_valueOf_6 ?_
  refine lv_iload_n hx hb dX2_valueOf_7 rfl (lv_at hl 2 rfl) ?_
  refine lv_iadd hx hb dX2_valueOf_8 ?_
  obtain ⟨hi, hM⟩ := h_i hM
  refine a_iald (σ := aGs 109 [] ι) (o := (o + 1)) C hw (aLinS_k ho).2.1 hi rfl dX2_valueOf_9 ?_
  cases h_e hM
  exact a_iret C hw dX2_valueOf_10
set_option maxHeartbeats 4000000 in
set_option maxRecDepth 100000 in
theorem cs_X2_differenceOf (l : Launch) {o : Nat} {x1 : Int32} {x2 : Int32} {x3 : Int32} (ho : aLinS 109 [] o) {ι : iS} {res : Int32 × iS} (hM : m_X2_differenceOf o x1 x2 x3 ι = some res) : aM l yX2_differenceOf cX2_differenceOf 5 (some .int) rm_X2_differenceOf (fun ad => [.ref (ad o), .int x1, .int x2, .int x3]) (aGs 109 [] ι) (some (.int res.1)) (aGs 109 [] res.2) := by
  refine aM.of (by decide) (fun _ => Nat.le_of_ble_eq_true rfl) ?_
  intro p e s m args below meth c D dA ad adV A ls C hw hl
  have C : aX p m c cX2_differenceOf 5 s args aTs RX2 meth (some .int) := C
  have hx := C.1.1
  have hb := C.1.2.1
  have hml := C.1.2.2.1
  have hown := C.1.2.2.2.1
  have hts := C.1.2.2.2.2
  have hl : lv_has ls 5 [(0, .ref (ad o)), (1, .int x1), (2, .int x2), (3, .int x3)] := hl
  unfold m_X2_differenceOf at hM
  refine lv_aload_n hx hb dX2_differenceOf_0 rfl (lv_at hl 0 rfl) ?_
  refine a_getp (q := (o + 3)) (σ := aGs 109 [] ι) (o := o) (T := TX2) (N := 11) C wU_X2 hw (aLinS_k ho).1 (by decide) rfl 5 (by decide) rfl wF_X2_28 (aLinS_p ho ι 2 (by decide)) dX2_differenceOf_1 ?_
  refine lv_iload_n hx hb dX2_differenceOf_4 rfl (lv_at hl 2 rfl) ?_
  obtain ⟨hi, hM⟩ := h_i hM
  refine a_iald (σ := aGs 109 [] ι) (o := (o + 3)) C hw (aLinS_k ho).2.2.2.1 hi rfl dX2_differenceOf_5 ?_
  refine lv_if_ne (tgt := 11) hx hb dX2_differenceOf_6 (by decide) (fun hc => ?_) (fun hc => ?_)
  · replace hM := h_f hc hM
    refine lv_iload_n hx hb dX2_differenceOf_11 rfl (lv_at hl 3 rfl) ?_
    refine lv_if_eq (tgt := 26) hx hb dX2_differenceOf_12 (by decide) (fun hc => ?_) (fun hc => ?_)
    · replace hM := h_t hc hM
      refine lv_aload_n hx hb dX2_differenceOf_26 rfl (lv_at hl 0 rfl) ?_
      refine a_getp (q := (o + 2)) (σ := aGs 109 [] ι) (o := o) (T := TX2) (N := 11) C wU_X2 hw (aLinS_k ho).1 (by decide) rfl 4 (by decide) rfl wF_X2_25 (aLinS_p ho ι 1 (by decide)) dX2_differenceOf_27 ?_
      refine lv_iload_n hx hb dX2_differenceOf_30 rfl (lv_at hl 2 rfl) ?_
      obtain ⟨hi, hM⟩ := h_i hM
      refine a_iald (σ := aGs 109 [] ι) (o := (o + 2)) C hw (aLinS_k ho).2.2.1 hi rfl dX2_differenceOf_31 ?_
      refine lv_istore (lv' := [(4, .int (gI ι (o + 2) x2.toNatClampNeg)), (0, .ref (ad o)), (1, .int x1), (2, .int x2), (3, .int x3)]) hx hb dX2_differenceOf_32 hl (by decide) rfl (fun ls hl => ?_)
      refine lv_aload_n hx hb dX2_differenceOf_34 rfl (lv_at hl 1 rfl) ?_
      refine a_getp (q := (o + 1)) (σ := aGs 109 [] ι) (o := o) (T := TX2) (N := 11) C wU_X2 hw (aLinS_k ho).1 (by decide) rfl 3 (by decide) rfl wF_X2_21 (aLinS_p ho ι 0 (by decide)) dX2_differenceOf_35 ?_
      refine lv_iload_n hx hb dX2_differenceOf_38 rfl (lv_at hl 2 rfl) ?_
      refine lv_iconst (v := (5 : Int32)) hx hb dX2_differenceOf_39 (by decide) ?_
      refine lv_imul hx hb dX2_differenceOf_40 ?_
      refine lv_iload_n hx hb dX2_differenceOf_41 rfl (lv_at hl 3 rfl) ?_
      refine lv_iadd hx hb dX2_differenceOf_42 ?_
      obtain ⟨hi, hM⟩ := h_i hM
      refine a_iald (σ := aGs 109 [] ι) (o := (o + 1)) C hw (aLinS_k ho).2.1 hi rfl dX2_differenceOf_43 ?_
      refine lv_iload hx hb dX2_differenceOf_44 (lv_at hl 0 rfl) ?_
      refine lv_isub hx hb dX2_differenceOf_46 ?_
      refine va_mabs hx hb (hml.trans hl.1.symm) hown (hts _ wM_X2_58) (hts _ wS_Lib_Math_abs_name) (hts _ wZ_J9) (hts _ wC_Lib_Math_abs_name) (Nat.le_of_ble_eq_true rfl) (Nat.le_of_ble_eq_true rfl) (Nat.zero_le _) (Nat.zero_le _) dX2_differenceOf_47 ?_
      cases h_e hM
      exact a_iret C hw dX2_differenceOf_50
    · replace hM := h_f hc hM
      refine lv_aload_n hx hb dX2_differenceOf_15 rfl (lv_at hl 0 rfl) ?_
      refine a_getp (q := (o + 1)) (σ := aGs 109 [] ι) (o := o) (T := TX2) (N := 11) C wU_X2 hw (aLinS_k ho).1 (by decide) rfl 3 (by decide) rfl wF_X2_21 (aLinS_p ho ι 0 (by decide)) dX2_differenceOf_16 ?_
      refine lv_iconst (v := (0 : Int32)) hx hb dX2_differenceOf_19 (by decide) ?_
      refine lv_iload_n hx hb dX2_differenceOf_20 rfl (lv_at hl 2 rfl) ?_
      refine lv_iadd hx hb dX2_differenceOf_21 ?_
      obtain ⟨hi, hM⟩ := h_i hM
      refine a_iald (σ := aGs 109 [] ι) (o := (o + 1)) C hw (aLinS_k ho).2.1 hi rfl dX2_differenceOf_22 ?_
      refine lv_goto (tgt := 32) hx hb dX2_differenceOf_23 (by decide) ?_
      refine lv_istore (lv' := [(4, .int (gI ι (o + 1) ((0 : Int32) + x2).toNatClampNeg)), (0, .ref (ad o)), (1, .int x1), (2, .int x2), (3, .int x3)]) hx hb dX2_differenceOf_32 hl (by decide) rfl (fun ls hl => ?_)
      refine lv_aload_n hx hb dX2_differenceOf_34 rfl (lv_at hl 1 rfl) ?_
      refine a_getp (q := (o + 1)) (σ := aGs 109 [] ι) (o := o) (T := TX2) (N := 11) C wU_X2 hw (aLinS_k ho).1 (by decide) rfl 3 (by decide) rfl wF_X2_21 (aLinS_p ho ι 0 (by decide)) dX2_differenceOf_35 ?_
      refine lv_iload_n hx hb dX2_differenceOf_38 rfl (lv_at hl 2 rfl) ?_
      refine lv_iconst (v := (5 : Int32)) hx hb dX2_differenceOf_39 (by decide) ?_
      refine lv_imul hx hb dX2_differenceOf_40 ?_
      refine lv_iload_n hx hb dX2_differenceOf_41 rfl (lv_at hl 3 rfl) ?_
      refine lv_iadd hx hb dX2_differenceOf_42 ?_
      obtain ⟨hi, hM⟩ := h_i hM
      refine a_iald (σ := aGs 109 [] ι) (o := (o + 1)) C hw (aLinS_k ho).2.1 hi rfl dX2_differenceOf_43 ?_
      refine lv_iload hx hb dX2_differenceOf_44 (lv_at hl 0 rfl) ?_
      refine lv_isub hx hb dX2_differenceOf_46 ?_
      refine va_mabs hx hb (hml.trans hl.1.symm) hown (hts _ wM_X2_58) (hts _ wS_Lib_Math_abs_name) (hts _ wZ_J9) (hts _ wC_Lib_Math_abs_name) (Nat.le_of_ble_eq_true rfl) (Nat.le_of_ble_eq_true rfl) (Nat.zero_le _) (Nat.zero_le _) dX2_differenceOf_47 ?_
      cases h_e hM
      exact a_iret C hw dX2_differenceOf_50
  · replace hM := h_t hc hM
    refine lv_iconst (v := (0 : Int32)) hx hb dX2_differenceOf_9 (by decide) ?_
    cases h_e hM
    exact a_iret C hw dX2_differenceOf_10
set_option maxHeartbeats 4000000 in
set_option maxRecDepth 100000 in
theorem us_X2_showFirst_15 (l : Launch) {p : Program} {e : Env} {s : State} {m : MethodId} {args : Array Value} {below : List Frame} {meth : Method} {c : Code} {D : va_G} {dA : Nat → ClassId} {ad adV : Nat → Nat} {A : Nat → Prop} (C : aX p m c cX2_showFirst 2 s args aTs RX2 meth none) {o : Nat} (ho : aLinS 109 [] o) {res : iS} : ∀ (n : Nat) (y1 : Int32) {ι : iS}, l_X2_showFirst_15 o n y1 ι = some res → ∀ {H : Heap} {locs : List Loc} {ls : Array Slot}, aW D dA ad adV (aGs 109 [] ι) A s H locs → lv_has ls 2 [(0, .ref (ad o)), (1, .int y1)] → W p l e rm_X2_showFirst s m args below meth c H locs 0 0 (MQ below (aQ D dA ad (aGs 109 [] res) A none) args s 0 0 A) (F0 m 15 ls []) := by
  have hx := C.1.1
  have hb := C.1.2.1
  have hml := C.1.2.2.1
  have hown := C.1.2.2.2.1
  have hts := C.1.2.2.2.2
  intro n
  induction n with
  | zero => intro y1 ι hM; simp [l_X2_showFirst_15] at hM
  | succ n ih =>
    intro y1 ι hM H locs ls hw hl
    rw [l_X2_showFirst_15] at hM
    refine lv_iload_n hx hb dX2_showFirst_15 rfl (lv_at hl 1 rfl) ?_
    refine lv_aload_n hx hb dX2_showFirst_16 rfl (lv_at hl 0 rfl) ?_
    refine a_geti (σ := aGs 109 [] ι) (o := o) (T := TX2) (N := 11) C wU_X2 hw (aLinS_k ho).1 (by decide) rfl 2 (by decide) rfl wF_X2_18 dX2_showFirst_17 ?_
    refine lv_icmp_ge (tgt := 36) hx hb dX2_showFirst_20 (by decide) (fun hc => ?_) (fun hc => ?_)
    · replace hM := h_t hc hM
      cases h_e hM
      exact a_vret C hw dX2_showFirst_36
    · replace hM := h_f hc hM
      refine lv_aload_n hx hb dX2_showFirst_23 rfl (lv_at hl 0 rfl) ?_
      refine a_getp (q := (o + 5)) (σ := aGs 109 [] ι) (o := o) (T := TX2) (N := 11) C wU_X2 hw (aLinS_k ho).1 (by decide) rfl 7 (by decide) rfl wF_X2_34 (aLinS_p ho ι 4 (by decide)) dX2_showFirst_24 ?_
      refine lv_iload_n hx hb dX2_showFirst_27 rfl (lv_at hl 1 rfl) ?_
      refine lv_iload_n hx hb dX2_showFirst_28 rfl (lv_at hl 1 rfl) ?_
      obtain ⟨hi, hM⟩ := h_i hM
      refine a_iast (σ := aGs 109 [] ι) (o := (o + 5)) C hw (aLinS_k ho).2.2.2.2.2.1 hi rfl dX2_showFirst_29 (fun H locs hw => ?_)
      have hw : aW D dA ad adV (aGs 109 [] (pI ι (o + 5) y1.toNatClampNeg y1)) A s H locs := hw
      refine lv_iinc (v := (y1 + 1)) (lv' := [(1, .int (y1 + 1)), (0, .ref (ad o))]) hx hb dX2_showFirst_30 hl (k := 1) rfl rfl (by decide) rfl (fun ls hl => ?_)
      refine lv_goto (tgt := 15) hx hb dX2_showFirst_33 (by decide) ?_
      exact ih ((y1 + 1)) hM hw (lv_sub hl [1, 0] rfl)
set_option maxHeartbeats 4000000 in
set_option maxRecDepth 100000 in
theorem cs_X2_showFirst (l : Launch) {o : Nat} (ho : aLinS 109 [] o) {ι : iS} {res : iS} (hM : m_X2_showFirst o ι = some res) : aM l yX2_showFirst cX2_showFirst 2 none rm_X2_showFirst (fun ad => [.ref (ad o)]) (aGs 109 [] ι) none (aGs 109 [] res) := by
  refine aM.of (by decide) (fun _ => Nat.le_of_ble_eq_true rfl) ?_
  intro p e s m args below meth c D dA ad adV A ls C hw hl
  have C : aX p m c cX2_showFirst 2 s args aTs RX2 meth none := C
  have hx := C.1.1
  have hb := C.1.2.1
  have hml := C.1.2.2.1
  have hown := C.1.2.2.2.1
  have hts := C.1.2.2.2.2
  have hl : lv_has ls 2 [(0, .ref (ad o))] := hl
  unfold m_X2_showFirst at hM
  refine lv_aload_n hx hb dX2_showFirst_0 rfl (lv_at hl 0 rfl) ?_
  refine lv_aload_n hx hb dX2_showFirst_1 rfl (lv_at hl 0 rfl) ?_
  refine a_geti (σ := aGs 109 [] ι) (o := o) (T := TX2) (N := 11) C wU_X2 hw (aLinS_k ho).1 (by decide) rfl 1 (by decide) rfl wF_X2_15 dX2_showFirst_2 ?_
  refine lv_bipush (v := (8 : Int32)) hx hb dX2_showFirst_5 (by decide) ?_
  refine va_mmin hx hb (hml.trans hl.1.symm) hown (hts _ wM_X2_64) (hts _ wS_Lib_Math_min_name) (hts _ wZ_J9) (hts _ wC_Lib_Math_min_name) (Nat.le_of_ble_eq_true rfl) (Nat.le_of_ble_eq_true rfl) (Nat.zero_le _) (Nat.zero_le _) dX2_showFirst_7 ?_
  refine a_puti (ty := .int) (σ := aGs 109 [] ι) (o := o) (T := TX2) (N := 11) (ty0 := tyX2) C wU_X2 tyX2_ok nmX2 hw (aLinS_k ho).1 (by decide) rfl 2 (by decide) rfl wF_X2_18 rfl (by decide +kernel) rfl rfl dX2_showFirst_10 (fun H locs hw => ?_)
  have hw : aW D dA ad adV (aGs 109 [] (pI ι o 2 (if (8 : Int32) < (gI ι o 1) then (8 : Int32) else (gI ι o 1)))) A s H locs := hw
  refine lv_iconst (v := (0 : Int32)) hx hb dX2_showFirst_13 (by decide) ?_
  refine lv_istore_n (lv' := [(1, .int (0 : Int32)), (0, .ref (ad o))]) hx hb dX2_showFirst_14 rfl hl (by decide) rfl (fun ls hl => ?_)
  exact us_X2_showFirst_15 l C ho aF ((0 : Int32)) hM hw (lv_sub hl [1, 0] rfl)
set_option maxHeartbeats 4000000 in
set_option maxRecDepth 100000 in
theorem cs_X6_held (l : Launch) {x1 : Int32} {x2 : Int32} {x3 : Int32} {ι : iS} {res : Int32 × iS} (hM : m_X6_held x1 x2 x3 ι = some res) : aM l yX6_held cX6_held 3 (some .int) rm_X6_held (fun ad => [.int x1, .int x2, .int x3]) (aGs 109 [] ι) (some (.int res.1)) (aGs 109 [] res.2) := by
  refine aM.of (by decide) (fun _ => Nat.le_of_ble_eq_true rfl) ?_
  intro p e s m args below meth c D dA ad adV A ls C hw hl
  have C : aX p m c cX6_held 3 s args aTs RX6 meth (some .int) := C
  have hx := C.1.1
  have hb := C.1.2.1
  have hml := C.1.2.2.1
  have hown := C.1.2.2.2.1
  have hts := C.1.2.2.2.2
  have hl : lv_has ls 3 [(0, .int x1), (1, .int x2), (2, .int x3)] := hl
  unfold m_X6_held at hM
  refine lv_iload_n hx hb dX6_held_0 rfl (lv_at hl 1 rfl) ?_
  refine lv_iload_n hx hb dX6_held_1 rfl (lv_at hl 2 rfl) ?_
  refine lv_iload_n hx hb dX6_held_2 rfl (lv_at hl 0 rfl) ?_
  refine va_mmin hx hb (hml.trans hl.1.symm) hown (hts _ wM_X6_235) (hts _ wS_Lib_Math_min_name) (hts _ wZ_J9) (hts _ wC_Lib_Math_min_name) (Nat.le_of_ble_eq_true rfl) (Nat.le_of_ble_eq_true rfl) (Nat.zero_le _) (Nat.zero_le _) dX6_held_3 ?_
  refine va_mmax hx hb (hml.trans hl.1.symm) hown (hts _ wM_X6_240) (hts _ wS_Lib_Math_max_name) (hts _ wZ_J9) (hts _ wC_Lib_Math_max_name) (Nat.le_of_ble_eq_true rfl) (Nat.le_of_ble_eq_true rfl) (Nat.zero_le _) (Nat.zero_le _) dX6_held_6 ?_
  cases h_e hM
  exact a_iret C hw dX6_held_9
set_option maxHeartbeats 4000000 in
set_option maxRecDepth 100000 in
theorem cs_X1_joined (l : Launch) {x1 : Int32} {x2 : Int64} {x3 : Int64} {ι : iS} {res : Int64 × iS} (hM : m_X1_joined x1 x2 x3 ι = some res) : aM l yX1_joined cX1_joined 7 (some .long) rm_X1_joined (fun ad => [.int x1, .long x2, .long x3]) (aGs 109 [] ι) (some (.long res.1)) (aGs 109 [] res.2) := by
  refine aM.of (by decide) (fun _ => Nat.le_of_ble_eq_true rfl) ?_
  intro p e s m args below meth c D dA ad adV A ls C hw hl
  have C : aX p m c cX1_joined 7 s args aTs RX1 meth (some .long) := C
  have hx := C.1.1
  have hb := C.1.2.1
  have hml := C.1.2.2.1
  have hown := C.1.2.2.2.1
  have hts := C.1.2.2.2.2
  have hl : lv_has ls 7 [(0, .int x1), (1, .long x2), (3, .long x3)] := hl
  unfold m_X1_joined at hM
  refine lv_lload_n hx hb dX1_joined_0 rfl (lv_at hl 1 rfl) ?_
  refine lv_lload_n hx hb dX1_joined_1 rfl (lv_at hl 2 rfl) ?_
  refine lv_lmul hx hb dX1_joined_2 ?_
  refine lv_lstore (lv' := [(5, .long (x2 * x3)), (0, .int x1), (1, .long x2), (3, .long x3)]) hx hb dX1_joined_3 hl (by decide) rfl (fun ls hl => ?_)
  refine lv_iload_n hx hb dX1_joined_5 rfl (lv_at hl 1 rfl) ?_
  refine lv_iconst (v := (5 : Int32)) hx hb dX1_joined_6 (by decide) ?_
  refine lv_icmp_ne (tgt := 18) hx hb dX1_joined_7 (by decide) (fun hc => ?_) (fun hc => ?_)
  · replace hM := h_f hc hM
    refine lv_iload_n hx hb dX1_joined_18 rfl (lv_at hl 1 rfl) ?_
    refine lv_bipush (v := (6 : Int32)) hx hb dX1_joined_19 (by decide) ?_
    refine lv_icmp_ne (tgt := 29) hx hb dX1_joined_21 (by decide) (fun hc => ?_) (fun hc => ?_)
    · replace hM := h_f hc hM
      refine lv_ldc2 (v := (-1000000 : Int64)) hx hb hown (hts _ wQ_X1_71) dX1_joined_29 ?_
      refine lv_ldc2 (v := (1000000 : Int64)) hx hb hown (hts _ wQ_X1_73) dX1_joined_32 ?_
      refine lv_lload hx hb dX1_joined_35 (lv_at hl 0 rfl) ?_
      refine va_mmin_long hx hb (hml.trans hl.1.symm) hown (hts _ wM_X1_75) (hts _ wS_Lib_MathLoose_min_long_x) (hts _ wZ_J9) (hts _ wC_Lib_MathLoose_min_long_x) (Nat.le_of_ble_eq_true rfl) (Nat.le_of_ble_eq_true rfl) (Nat.zero_le _) (Nat.zero_le _) dX1_joined_37 ?_
      refine va_mmax_long hx hb (hml.trans hl.1.symm) hown (hts _ wM_X1_81) (hts _ wS_Lib_MathLoose_max_long_x) (hts _ wZ_J9) (hts _ wC_Lib_MathLoose_max_long_x) (Nat.le_of_ble_eq_true rfl) (Nat.le_of_ble_eq_true rfl) (Nat.zero_le _) (Nat.zero_le _) dX1_joined_40 ?_
      cases h_e hM
      exact a_lret C hw dX1_joined_43
    · replace hM := h_t hc hM
      refine lv_lload_n hx hb dX1_joined_24 rfl (lv_at hl 2 rfl) ?_
      refine lv_lload_n hx hb dX1_joined_25 rfl (lv_at hl 3 rfl) ?_
      refine lv_lsub hx hb dX1_joined_26 ?_
      refine lv_lstore (lv' := [(5, .long (x2 - x3)), (0, .int x1), (1, .long x2), (3, .long x3)]) hx hb dX1_joined_27 hl (by decide) rfl (fun ls hl => ?_)
      refine lv_ldc2 (v := (-1000000 : Int64)) hx hb hown (hts _ wQ_X1_71) dX1_joined_29 ?_
      refine lv_ldc2 (v := (1000000 : Int64)) hx hb hown (hts _ wQ_X1_73) dX1_joined_32 ?_
      refine lv_lload hx hb dX1_joined_35 (lv_at hl 0 rfl) ?_
      refine va_mmin_long hx hb (hml.trans hl.1.symm) hown (hts _ wM_X1_75) (hts _ wS_Lib_MathLoose_min_long_x) (hts _ wZ_J9) (hts _ wC_Lib_MathLoose_min_long_x) (Nat.le_of_ble_eq_true rfl) (Nat.le_of_ble_eq_true rfl) (Nat.zero_le _) (Nat.zero_le _) dX1_joined_37 ?_
      refine va_mmax_long hx hb (hml.trans hl.1.symm) hown (hts _ wM_X1_81) (hts _ wS_Lib_MathLoose_max_long_x) (hts _ wZ_J9) (hts _ wC_Lib_MathLoose_max_long_x) (Nat.le_of_ble_eq_true rfl) (Nat.le_of_ble_eq_true rfl) (Nat.zero_le _) (Nat.zero_le _) dX1_joined_40 ?_
      cases h_e hM
      exact a_lret C hw dX1_joined_43
  · replace hM := h_t hc hM
    refine lv_lload_n hx hb dX1_joined_10 rfl (lv_at hl 2 rfl) ?_
    refine lv_lload_n hx hb dX1_joined_11 rfl (lv_at hl 3 rfl) ?_
    refine lv_ladd hx hb dX1_joined_12 ?_
    refine lv_lstore (lv' := [(5, .long (x2 + x3)), (0, .int x1), (1, .long x2), (3, .long x3)]) hx hb dX1_joined_13 hl (by decide) rfl (fun ls hl => ?_)
    refine lv_goto (tgt := 29) hx hb dX1_joined_15 (by decide) ?_
    refine lv_ldc2 (v := (-1000000 : Int64)) hx hb hown (hts _ wQ_X1_71) dX1_joined_29 ?_
    refine lv_ldc2 (v := (1000000 : Int64)) hx hb hown (hts _ wQ_X1_73) dX1_joined_32 ?_
    refine lv_lload hx hb dX1_joined_35 (lv_at hl 0 rfl) ?_
    refine va_mmin_long hx hb (hml.trans hl.1.symm) hown (hts _ wM_X1_75) (hts _ wS_Lib_MathLoose_min_long_x) (hts _ wZ_J9) (hts _ wC_Lib_MathLoose_min_long_x) (Nat.le_of_ble_eq_true rfl) (Nat.le_of_ble_eq_true rfl) (Nat.zero_le _) (Nat.zero_le _) dX1_joined_37 ?_
    refine va_mmax_long hx hb (hml.trans hl.1.symm) hown (hts _ wM_X1_81) (hts _ wS_Lib_MathLoose_max_long_x) (hts _ wZ_J9) (hts _ wC_Lib_MathLoose_max_long_x) (Nat.le_of_ble_eq_true rfl) (Nat.le_of_ble_eq_true rfl) (Nat.zero_le _) (Nat.zero_le _) dX1_joined_40 ?_
    cases h_e hM
    exact a_lret C hw dX1_joined_43
set_option maxHeartbeats 4000000 in
set_option maxRecDepth 100000 in
theorem cs_X1_ofTrait (l : Launch) {x1 : Int32} {x2 : Int32} {x3 : Nat} {x4 : Int32} {x5 : Int32} (hx3 : aLinS 109 [] x3) {ι : iS} {res : Int64 × iS} (hM : m_X1_ofTrait x1 x2 x3 x4 x5 ι = some res) : aM l yX1_ofTrait cX1_ofTrait 5 (some .long) rm_X1_ofTrait (fun ad => [.int x1, .int x2, .ref (ad x3), .int x4, .int x5]) (aGs 109 [] ι) (some (.long res.1)) (aGs 109 [] res.2) := by
  refine aM.of (by decide) (fun _ => Nat.le_of_ble_eq_true rfl) ?_
  intro p e s m args below meth c D dA ad adV A ls C hw hl
  have C : aX p m c cX1_ofTrait 5 s args aTs RX1 meth (some .long) := C
  have hx := C.1.1
  have hb := C.1.2.1
  have hml := C.1.2.2.1
  have hown := C.1.2.2.2.1
  have hts := C.1.2.2.2.2
  have hl : lv_has ls 5 [(0, .int x1), (1, .int x2), (2, .ref (ad x3)), (3, .int x4), (4, .int x5)] := hl
  unfold m_X1_ofTrait at hM
  refine lv_iload_n hx hb dX1_ofTrait_0 rfl (lv_at hl 0 rfl) ?_
  refine lv_iconst (v := (1 : Int32)) hx hb dX1_ofTrait_1 (by decide) ?_
  refine lv_icmp_ne (tgt := 13) hx hb dX1_ofTrait_2 (by decide) (fun hc => ?_) (fun hc => ?_)
  · replace hM := h_f hc hM
    refine lv_iload_n hx hb dX1_ofTrait_13 rfl (lv_at hl 0 rfl) ?_
    refine lv_iconst (v := (2 : Int32)) hx hb dX1_ofTrait_14 (by decide) ?_
    refine lv_icmp_ne (tgt := 30) hx hb dX1_ofTrait_15 (by decide) (fun hc => ?_) (fun hc => ?_)
    · replace hM := h_f hc hM
      refine lv_aload_n hx hb dX1_ofTrait_30 rfl (lv_at hl 2 rfl) ?_
      refine a_getp (q := (x3 + 3)) (σ := aGs 109 [] ι) (o := x3) (T := TX2) (N := 11) C wU_X2 hw (aLinS_k hx3).1 (by decide) rfl 5 (by decide) rfl wF_X1_52 (aLinS_p hx3 ι 2 (by decide)) dX1_ofTrait_31 ?_
      refine lv_iload_n hx hb dX1_ofTrait_34 rfl (lv_at hl 1 rfl) ?_
      obtain ⟨hi, hM⟩ := h_i hM
      refine a_iald (σ := aGs 109 [] ι) (o := (x3 + 3)) C hw (aLinS_k hx3).2.2.2.1 hi rfl dX1_ofTrait_35 ?_
      refine lv_i2l hx hb dX1_ofTrait_36 rfl ?_
      cases h_e hM
      exact a_lret C hw dX1_ofTrait_37
    · replace hM := h_t hc hM
      refine lv_aload_n hx hb dX1_ofTrait_18 rfl (lv_at hl 2 rfl) ?_
      refine lv_iload_n hx hb dX1_ofTrait_19 rfl (lv_at hl 3 rfl) ?_
      refine lv_iload_n hx hb dX1_ofTrait_20 rfl (lv_at hl 1 rfl) ?_
      refine lv_iload hx hb dX1_ofTrait_21 (lv_at hl 4 rfl) ?_
      obtain ⟨r23, hr23, hM⟩ := h_b hM
      refine a_callV (σ' := aGs 109 [] r23.2) (v := (some (.int r23.1))) (As := fun ad => [.int x4, .int x2, .int x5]) (rest := []) (o := x3) C hw (cs_X2_differenceOf l (hx3) hr23) k_X2_differenceOf wM_X1_55 ⟨⟨rfl, rfl⟩, ⟨Nat.le_of_ble_eq_true rfl, Nat.le_of_ble_eq_true rfl⟩⟩ (aLinS_k hx3).1 (by decide) rfl rfl rfl hl rfl (Nat.le_of_ble_eq_true rfl) dX1_ofTrait_23 ⟨Nat.zero_le _, Nat.zero_le _⟩ (fun H locs hw => ?_)
      refine lv_i2l hx hb dX1_ofTrait_26 rfl ?_
      refine lv_goto (tgt := 37) hx hb dX1_ofTrait_27 (by decide) ?_
      cases h_e hM
      exact a_lret C hw dX1_ofTrait_37
  · replace hM := h_t hc hM
    refine lv_aload_n hx hb dX1_ofTrait_5 rfl (lv_at hl 2 rfl) ?_
    refine lv_iload_n hx hb dX1_ofTrait_6 rfl (lv_at hl 3 rfl) ?_
    refine lv_iload_n hx hb dX1_ofTrait_7 rfl (lv_at hl 1 rfl) ?_
    obtain ⟨r8, hr8, hM⟩ := h_b hM
    refine a_callV (σ' := aGs 109 [] r8.2) (v := (some (.int r8.1))) (As := fun ad => [.int x4, .int x2]) (rest := []) (o := x3) C hw (cs_X2_valueOf l (hx3) hr8) k_X2_valueOf wM_X1_67 ⟨⟨rfl, rfl⟩, ⟨Nat.le_of_ble_eq_true rfl, Nat.le_of_ble_eq_true rfl⟩⟩ (aLinS_k hx3).1 (by decide) rfl rfl rfl hl rfl (Nat.le_of_ble_eq_true rfl) dX1_ofTrait_8 ⟨Nat.zero_le _, Nat.zero_le _⟩ (fun H locs hw => ?_)
    refine lv_i2l hx hb dX1_ofTrait_11 rfl ?_
    cases h_e hM
    exact a_lret C hw dX1_ofTrait_12
set_option maxHeartbeats 4000000 in
set_option maxRecDepth 100000 in
theorem us_X1_plainRate_5 (l : Launch) {p : Program} {e : Env} {s : State} {m : MethodId} {args : Array Value} {below : List Frame} {meth : Method} {c : Code} {D : va_G} {dA : Nat → ClassId} {ad adV : Nat → Nat} {A : Nat → Prop} (C : aX p m c cX1_plainRate 5 s args aTs RX1 meth (some .int)) {x1 : Nat} (hx1 : aLinS 109 [] x1) {res : Int32 × iS} : ∀ (n : Nat) (y1 : Int32) (y2 : Int32) (y3 : Int32) (y4 : Int32) {ι : iS}, l_X1_plainRate_5 x1 n y1 y2 y3 y4 ι = some res → ∀ {H : Heap} {locs : List Loc} {ls : Array Slot}, aW D dA ad adV (aGs 109 [] ι) A s H locs → lv_has ls 5 [(0, .ref (ad x1)), (1, .int y1), (2, .int y2), (3, .int y3), (4, .int y4)] → W p l e rm_X1_plainRate s m args below meth c H locs 0 0 (MQ below (aQ D dA ad (aGs 109 [] res.2) A (some (.int res.1))) args s 0 0 A) (F0 m 5 ls []) := by
  have hx := C.1.1
  have hb := C.1.2.1
  have hml := C.1.2.2.1
  have hown := C.1.2.2.2.1
  have hts := C.1.2.2.2.2
  intro n
  induction n with
  | zero => intro y1 y2 y3 y4 ι hM; simp [l_X1_plainRate_5] at hM
  | succ n ih =>
    intro y1 y2 y3 y4 ι hM H locs ls hw hl
    rw [l_X1_plainRate_5] at hM
    refine lv_iload hx hb dX1_plainRate_5 (lv_at hl 4 rfl) ?_
    refine lv_aload_n hx hb dX1_plainRate_7 rfl (lv_at hl 0 rfl) ?_
    refine a_geti (σ := aGs 109 [] ι) (o := x1) (T := TX2) (N := 11) C wU_X2 hw (aLinS_k hx1).1 (by decide) rfl 0 (by decide) rfl wF_X1_49 dX1_plainRate_8 ?_
    refine lv_icmp_ge (tgt := 42) hx hb dX1_plainRate_11 (by decide) (fun hc => ?_) (fun hc => ?_)
    · replace hM := h_t hc hM
      refine lv_iload_n hx hb dX1_plainRate_42 rfl (lv_at hl 3 rfl) ?_
      cases h_e hM
      exact a_iret C hw dX1_plainRate_43
    · replace hM := h_f hc hM
      refine lv_iload_n hx hb dX1_plainRate_14 rfl (lv_at hl 3 rfl) ?_
      refine lv_aload_n hx hb dX1_plainRate_15 rfl (lv_at hl 0 rfl) ?_
      refine a_getp (q := (x1 + 3)) (σ := aGs 109 [] ι) (o := x1) (T := TX2) (N := 11) C wU_X2 hw (aLinS_k hx1).1 (by decide) rfl 5 (by decide) rfl wF_X1_52 (aLinS_p hx1 ι 2 (by decide)) dX1_plainRate_16 ?_
      refine lv_iload hx hb dX1_plainRate_19 (lv_at hl 4 rfl) ?_
      obtain ⟨hi, hM⟩ := h_i hM
      refine a_iald (σ := aGs 109 [] ι) (o := (x1 + 3)) C hw (aLinS_k hx1).2.2.2.1 hi rfl dX1_plainRate_21 ?_
      refine lv_bipush (v := (9 : Int32)) hx hb dX1_plainRate_22 (by decide) ?_
      refine lv_aload_n hx hb dX1_plainRate_24 rfl (lv_at hl 0 rfl) ?_
      refine lv_iload_n hx hb dX1_plainRate_25 rfl (lv_at hl 1 rfl) ?_
      refine lv_iload hx hb dX1_plainRate_26 (lv_at hl 4 rfl) ?_
      refine lv_iload_n hx hb dX1_plainRate_28 rfl (lv_at hl 2 rfl) ?_
      obtain ⟨r29, hr29, hM⟩ := h_b hM
      refine a_callV (σ' := aGs 109 [] r29.2) (v := (some (.int r29.1))) (As := fun ad => [.int y1, .int y4, .int y2]) (rest := [.int (9 : Int32), .int (gI ι (x1 + 3) y4.toNatClampNeg), .int y3]) (o := x1) C hw (cs_X2_differenceOf l (hx1) hr29) k_X2_differenceOf wM_X1_55 ⟨⟨rfl, rfl⟩, ⟨Nat.le_of_ble_eq_true rfl, Nat.le_of_ble_eq_true rfl⟩⟩ (aLinS_k hx1).1 (by decide) rfl rfl rfl hl rfl (Nat.le_of_ble_eq_true rfl) dX1_plainRate_29 ⟨Nat.zero_le _, Nat.zero_le _⟩ (fun H locs hw => ?_)
      refine lv_isub hx hb dX1_plainRate_32 ?_
      refine lv_imul hx hb dX1_plainRate_33 ?_
      refine lv_iadd hx hb dX1_plainRate_34 ?_
      refine lv_istore_n (lv' := [(3, .int (y3 + ((gI ι (x1 + 3) y4.toNatClampNeg) * ((9 : Int32) - r29.1)))), (0, .ref (ad x1)), (1, .int y1), (2, .int y2), (4, .int y4)]) hx hb dX1_plainRate_35 rfl hl (by decide) rfl (fun ls hl => ?_)
      refine lv_iinc (v := (y4 + 1)) (lv' := [(4, .int (y4 + 1)), (3, .int (y3 + ((gI ι (x1 + 3) y4.toNatClampNeg) * ((9 : Int32) - r29.1)))), (0, .ref (ad x1)), (1, .int y1), (2, .int y2)]) hx hb dX1_plainRate_36 hl (k := 4) rfl rfl (by decide) rfl (fun ls hl => ?_)
      refine lv_goto (tgt := 5) hx hb dX1_plainRate_39 (by decide) ?_
      exact ih (y1) (y2) ((y3 + ((gI ι (x1 + 3) y4.toNatClampNeg) * ((9 : Int32) - r29.1)))) ((y4 + 1)) hM hw (lv_sub hl [2, 3, 4, 1, 0] rfl)
set_option maxHeartbeats 4000000 in
set_option maxRecDepth 100000 in
theorem cs_X1_plainRate (l : Launch) {x1 : Nat} {x2 : Int32} {x3 : Int32} (hx1 : aLinS 109 [] x1) {ι : iS} {res : Int32 × iS} (hM : m_X1_plainRate x1 x2 x3 ι = some res) : aM l yX1_plainRate cX1_plainRate 5 (some .int) rm_X1_plainRate (fun ad => [.ref (ad x1), .int x2, .int x3]) (aGs 109 [] ι) (some (.int res.1)) (aGs 109 [] res.2) := by
  refine aM.of (by decide) (fun _ => Nat.le_of_ble_eq_true rfl) ?_
  intro p e s m args below meth c D dA ad adV A ls C hw hl
  have C : aX p m c cX1_plainRate 5 s args aTs RX1 meth (some .int) := C
  have hx := C.1.1
  have hb := C.1.2.1
  have hml := C.1.2.2.1
  have hown := C.1.2.2.2.1
  have hts := C.1.2.2.2.2
  have hl : lv_has ls 5 [(0, .ref (ad x1)), (1, .int x2), (2, .int x3)] := hl
  unfold m_X1_plainRate at hM
  refine lv_iconst (v := (0 : Int32)) hx hb dX1_plainRate_0 (by decide) ?_
  refine lv_istore_n (lv' := [(3, .int (0 : Int32)), (0, .ref (ad x1)), (1, .int x2), (2, .int x3)]) hx hb dX1_plainRate_1 rfl hl (by decide) rfl (fun ls hl => ?_)
  refine lv_iconst (v := (0 : Int32)) hx hb dX1_plainRate_2 (by decide) ?_
  refine lv_istore (lv' := [(4, .int (0 : Int32)), (3, .int (0 : Int32)), (0, .ref (ad x1)), (1, .int x2), (2, .int x3)]) hx hb dX1_plainRate_3 hl (by decide) rfl (fun ls hl => ?_)
  exact us_X1_plainRate_5 l C hx1 aF (x2) (x3) ((0 : Int32)) ((0 : Int32)) hM hw (lv_sub hl [2, 3, 4, 1, 0] rfl)
set_option maxHeartbeats 4000000 in
set_option maxRecDepth 100000 in
theorem us_X1_run_6 (l : Launch) {p : Program} {e : Env} {s : State} {m : MethodId} {args : Array Value} {below : List Frame} {meth : Method} {c : Code} {D : va_G} {dA : Nat → ClassId} {ad adV : Nat → Nat} {A : Nat → Prop} (C : aX p m c cX1_run 8 s args aTs RX1 meth (some .long)) {x1 : Nat} (hx1 : aLinS 109 [] x1) {res : Int64 × iS} : ∀ (n : Nat) (y2 : Int32) (y3 : Int32) (y4 : Int32) (y5 : Int32) {ι : iS}, l_X1_run_6 x1 n y2 y3 y4 y5 ι = some res → ∀ {H : Heap} {locs : List Loc} {ls : Array Slot}, aW D dA ad adV (aGs 109 [] ι) A s H locs → lv_has ls 8 [(0, .ref (ad 21)), (1, .ref (ad x1)), (2, .int y2), (3, .int y3), (4, .int y4), (5, .int y5)] → W p l e rm_X1_run s m args below meth c H locs 0 0 (MQ below (aQ D dA ad (aGs 109 [] res.2) A (some (.long res.1))) args s 0 0 A) (F0 m 6 ls []) := by
  have hx := C.1.1
  have hb := C.1.2.1
  have hml := C.1.2.2.1
  have hown := C.1.2.2.2.1
  have hts := C.1.2.2.2.2
  intro n
  induction n with
  | zero => intro y2 y3 y4 y5 ι hM; simp [l_X1_run_6] at hM
  | succ n ih =>
    intro y2 y3 y4 y5 ι hM H locs ls hw hl
    rw [l_X1_run_6] at hM
    refine lv_iload hx hb dX1_run_6 (lv_at hl 5 rfl) ?_
    refine lv_aload_n hx hb dX1_run_8 rfl (lv_at hl 0 rfl) ?_
    refine a_geti (σ := aGs 109 [] ι) (o := 21) (T := TX1) (N := 3) C wU_X1 hw rfl (by decide) rfl 2 (by decide) rfl wF_X1_19 dX1_run_9 ?_
    refine lv_icmp_ge (tgt := 194) hx hb dX1_run_12 (by decide) (fun hc => ?_) (fun hc => ?_)
    · replace hM := h_t hc hM
      refine lv_aload_n hx hb dX1_run_194 rfl (lv_at hl 0 rfl) ?_
      refine a_getp (q := 23) (σ := aGs 109 [] ι) (o := 21) (T := TX1) (N := 3) C wU_X1 hw rfl (by decide) rfl 1 (by decide) rfl wF_X1_15 (aGs_P rfl rfl) dX1_run_195 ?_
      refine lv_iconst (v := (0 : Int32)) hx hb dX1_run_198 (by decide) ?_
      refine a_lald (σ := aGs 109 [] ι) (o := 23) C hw rfl (aIn_v (by decide)) (show (0 : Int32).toNatClampNeg = 0 by decide) dX1_run_199 ?_
      cases h_e hM
      exact a_lret C hw dX1_run_200
    · replace hM := h_f hc hM
      refine lv_aload_n hx hb dX1_run_15 rfl (lv_at hl 0 rfl) ?_
      refine a_getp (q := 22) (σ := aGs 109 [] ι) (o := 21) (T := TX1) (N := 3) C wU_X1 hw rfl (by decide) rfl 0 (by decide) rfl wF_X1_9 (aGs_P rfl rfl) dX1_run_16 ?_
      refine lv_iload hx hb dX1_run_19 (lv_at hl 5 rfl) ?_
      obtain ⟨hi, hM⟩ := h_i hM
      refine a_iald (σ := aGs 109 [] ι) (o := 22) C hw rfl hi rfl dX1_run_21 ?_
      refine lv_bipush (v := (7 : Int32)) hx hb dX1_run_22 (by decide) ?_
      refine lv_ishr hx hb dX1_run_24 ?_
      refine lv_istore (lv' := [(6, .int ((gI ι 22 y5.toNatClampNeg) >>> ((7 : Int32) &&& 31))), (0, .ref (ad 21)), (1, .ref (ad x1)), (2, .int y2), (3, .int y3), (4, .int y4), (5, .int y5)]) hx hb dX1_run_25 hl (by decide) rfl (fun ls hl => ?_)
      refine lv_aload_n hx hb dX1_run_27 rfl (lv_at hl 1 rfl) ?_
      refine a_getp (q := 22) (σ := aGs 109 [] ι) (o := 21) (T := TX1) (N := 3) C wU_X1 hw rfl (by decide) rfl 0 (by decide) rfl wF_X1_9 (aGs_P rfl rfl) dX1_run_28 ?_
      refine lv_iload hx hb dX1_run_31 (lv_at hl 6 rfl) ?_
      obtain ⟨hi, hM⟩ := h_i hM
      refine a_iald (σ := aGs 109 [] ι) (o := 22) C hw rfl hi rfl dX1_run_33 ?_
      refine lv_bipush (v := (127 : Int32)) hx hb dX1_run_34 (by decide) ?_
      refine lv_iand hx hb dX1_run_36 ?_
      refine lv_istore (lv' := [(7, .int ((gI ι 22 y5.toNatClampNeg) &&& (127 : Int32))), (6, .int ((gI ι 22 y5.toNatClampNeg) >>> ((7 : Int32) &&& 31))), (0, .ref (ad 21)), (1, .ref (ad x1)), (2, .int y2), (3, .int y3), (4, .int y4), (5, .int y5)]) hx hb dX1_run_37 hl (by decide) rfl (fun ls hl => ?_)
      refine lv_iload hx hb dX1_run_39 (lv_at hl 1 rfl) ?_
      refine lv_if_ne (tgt := 67) hx hb dX1_run_41 (by decide) (fun hc => ?_) (fun hc => ?_)
      · replace hM := h_f hc hM
        refine lv_iload hx hb dX1_run_67 (lv_at hl 1 rfl) ?_
        refine lv_iconst (v := (4 : Int32)) hx hb dX1_run_69 (by decide) ?_
        refine lv_icmp_ge (tgt := 109) hx hb dX1_run_70 (by decide) (fun hc => ?_) (fun hc => ?_)
        · replace hM := h_t hc hM
          refine lv_iload hx hb dX1_run_109 (lv_at hl 1 rfl) ?_
          refine lv_iconst (v := (4 : Int32)) hx hb dX1_run_111 (by decide) ?_
          refine lv_icmp_ne (tgt := 143) hx hb dX1_run_112 (by decide) (fun hc => ?_) (fun hc => ?_)
          · replace hM := h_f hc hM
            refine lv_iload hx hb dX1_run_143 (lv_at hl 1 rfl) ?_
            refine lv_iconst (v := (4 : Int32)) hx hb dX1_run_145 (by decide) ?_
            refine lv_icmp_le (tgt := 188) hx hb dX1_run_146 (by decide) (fun hc => ?_) (fun hc => ?_)
            · replace hM := h_t hc hM
              refine lv_iinc (v := (y5 + 1)) (lv' := [(5, .int (y5 + 1)), (7, .int ((gI ι 22 y5.toNatClampNeg) &&& (127 : Int32))), (6, .int ((gI ι 22 y5.toNatClampNeg) >>> ((7 : Int32) &&& 31))), (0, .ref (ad 21)), (1, .ref (ad x1)), (2, .int y2), (3, .int y3), (4, .int y4)]) hx hb dX1_run_188 hl (k := 7) rfl rfl (by decide) rfl (fun ls hl => ?_)
              refine lv_goto (tgt := 6) hx hb dX1_run_191 (by decide) ?_
              exact ih (y2) (y3) (y4) ((y5 + 1)) hM hw (lv_sub hl [3, 4, 5, 6, 7, 0] rfl)
            · replace hM := h_f hc hM
              refine lv_iload hx hb dX1_run_149 (lv_at hl 6 rfl) ?_
              refine lv_iconst (v := (2 : Int32)) hx hb dX1_run_151 (by decide) ?_
              refine lv_icmp_lt (tgt := 188) hx hb dX1_run_152 (by decide) (fun hc => ?_) (fun hc => ?_)
              · replace hM := h_t hc hM
                refine lv_iinc (v := (y5 + 1)) (lv' := [(5, .int (y5 + 1)), (7, .int ((gI ι 22 y5.toNatClampNeg) &&& (127 : Int32))), (6, .int ((gI ι 22 y5.toNatClampNeg) >>> ((7 : Int32) &&& 31))), (0, .ref (ad 21)), (1, .ref (ad x1)), (2, .int y2), (3, .int y3), (4, .int y4)]) hx hb dX1_run_188 hl (k := 7) rfl rfl (by decide) rfl (fun ls hl => ?_)
                refine lv_goto (tgt := 6) hx hb dX1_run_191 (by decide) ?_
                exact ih (y2) (y3) (y4) ((y5 + 1)) hM hw (lv_sub hl [3, 4, 5, 6, 7, 0] rfl)
              · replace hM := h_f hc hM
                refine lv_iinc (v := (y4 + (-1))) (lv' := [(4, .int (y4 + (-1))), (7, .int ((gI ι 22 y5.toNatClampNeg) &&& (127 : Int32))), (6, .int ((gI ι 22 y5.toNatClampNeg) >>> ((7 : Int32) &&& 31))), (0, .ref (ad 21)), (1, .ref (ad x1)), (2, .int y2), (3, .int y3), (5, .int y5)]) hx hb dX1_run_155 hl (k := 6) rfl rfl (by decide) rfl (fun ls hl => ?_)
                refine lv_aload_n hx hb dX1_run_158 rfl (lv_at hl 3 rfl) ?_
                refine a_getp (q := 23) (σ := aGs 109 [] ι) (o := 21) (T := TX1) (N := 3) C wU_X1 hw rfl (by decide) rfl 1 (by decide) rfl wF_X1_15 (aGs_P rfl rfl) dX1_run_159 ?_
                refine lv_iload hx hb dX1_run_162 (lv_at hl 0 rfl) ?_
                refine lv_iconst (v := (1 : Int32)) hx hb dX1_run_164 (by decide) ?_
                refine lv_isub hx hb dX1_run_165 ?_
                refine lv_iload hx hb dX1_run_166 (lv_at hl 2 rfl) ?_
                refine lv_aload_n hx hb dX1_run_168 rfl (lv_at hl 3 rfl) ?_
                refine a_getp (q := 23) (σ := aGs 109 [] ι) (o := 21) (T := TX1) (N := 3) C wU_X1 hw rfl (by decide) rfl 1 (by decide) rfl wF_X1_15 (aGs_P rfl rfl) dX1_run_169 ?_
                refine lv_iload hx hb dX1_run_172 (lv_at hl 0 rfl) ?_
                refine lv_iconst (v := (1 : Int32)) hx hb dX1_run_174 (by decide) ?_
                refine lv_isub hx hb dX1_run_175 ?_
                obtain ⟨hi, hM⟩ := h_i hM
                refine a_lald (σ := aGs 109 [] ι) (o := 23) C hw rfl hi rfl dX1_run_176 ?_
                refine lv_aload_n hx hb dX1_run_177 rfl (lv_at hl 3 rfl) ?_
                refine a_getp (q := 23) (σ := aGs 109 [] ι) (o := 21) (T := TX1) (N := 3) C wU_X1 hw rfl (by decide) rfl 1 (by decide) rfl wF_X1_15 (aGs_P rfl rfl) dX1_run_178 ?_
                refine lv_iload hx hb dX1_run_181 (lv_at hl 0 rfl) ?_
                obtain ⟨hi, hM⟩ := h_i hM
                refine a_lald (σ := aGs 109 [] ι) (o := 23) C hw rfl hi rfl dX1_run_183 ?_
                obtain ⟨r184, hr184, hM⟩ := h_b hM
                refine a_callS  (σ' := aGs 109 [] r184.2) (v := (some (.long r184.1))) (as := fun ad => [.int ((gI ι 22 y5.toNatClampNeg) >>> ((7 : Int32) &&& 31)), .long (gJ ι 23 ((y4 + (-1)) - (1 : Int32)).toNatClampNeg), .long (gJ ι 23 (y4 + (-1)).toNatClampNeg)]) (rest := [.int ((y4 + (-1)) - (1 : Int32)), .ref (ad 23)]) C hw (cs_X1_joined l hr184) k_X1_joined wM_X1_63 ⟨⟨rfl, rfl⟩, ⟨Nat.le_of_ble_eq_true rfl, Nat.le_of_ble_eq_true rfl⟩⟩ rfl hl rfl (Nat.le_of_ble_eq_true rfl) dX1_run_184 ⟨Nat.zero_le _, Nat.zero_le _⟩ (fun H locs hw => ?_)
                obtain ⟨hi, hM⟩ := h_i hM
                refine a_last (σ := aGs 109 [] r184.2) (o := 23) C hw rfl hi rfl dX1_run_187 (fun H locs hw => ?_)
                have hw : aW D dA ad adV (aGs 109 [] (pJ r184.2 23 ((y4 + (-1)) - (1 : Int32)).toNatClampNeg r184.1)) A s H locs := hw
                refine lv_iinc (v := (y5 + 1)) (lv' := [(5, .int (y5 + 1)), (4, .int (y4 + (-1))), (7, .int ((gI ι 22 y5.toNatClampNeg) &&& (127 : Int32))), (6, .int ((gI ι 22 y5.toNatClampNeg) >>> ((7 : Int32) &&& 31))), (0, .ref (ad 21)), (1, .ref (ad x1)), (2, .int y2), (3, .int y3)]) hx hb dX1_run_188 hl (k := 7) rfl rfl (by decide) rfl (fun ls hl => ?_)
                refine lv_goto (tgt := 6) hx hb dX1_run_191 (by decide) ?_
                exact ih (y2) (y3) ((y4 + (-1))) ((y5 + 1)) hM hw (lv_sub hl [4, 5, 6, 7, 1, 0] rfl)
          · replace hM := h_t hc hM
            refine lv_iload hx hb dX1_run_115 (lv_at hl 6 rfl) ?_
            refine lv_iconst (v := (1 : Int32)) hx hb dX1_run_117 (by decide) ?_
            refine lv_icmp_lt (tgt := 143) hx hb dX1_run_118 (by decide) (fun hc => ?_) (fun hc => ?_)
            · replace hM := h_t hc hM
              refine lv_iload hx hb dX1_run_143 (lv_at hl 1 rfl) ?_
              refine lv_iconst (v := (4 : Int32)) hx hb dX1_run_145 (by decide) ?_
              refine lv_icmp_le (tgt := 188) hx hb dX1_run_146 (by decide) (fun hc => ?_) (fun hc => ?_)
              · replace hM := h_t hc hM
                refine lv_iinc (v := (y5 + 1)) (lv' := [(5, .int (y5 + 1)), (7, .int ((gI ι 22 y5.toNatClampNeg) &&& (127 : Int32))), (6, .int ((gI ι 22 y5.toNatClampNeg) >>> ((7 : Int32) &&& 31))), (0, .ref (ad 21)), (1, .ref (ad x1)), (2, .int y2), (3, .int y3), (4, .int y4)]) hx hb dX1_run_188 hl (k := 7) rfl rfl (by decide) rfl (fun ls hl => ?_)
                refine lv_goto (tgt := 6) hx hb dX1_run_191 (by decide) ?_
                exact ih (y2) (y3) (y4) ((y5 + 1)) hM hw (lv_sub hl [3, 4, 5, 6, 7, 0] rfl)
              · replace hM := h_f hc hM
                refine lv_iload hx hb dX1_run_149 (lv_at hl 6 rfl) ?_
                refine lv_iconst (v := (2 : Int32)) hx hb dX1_run_151 (by decide) ?_
                refine lv_icmp_lt (tgt := 188) hx hb dX1_run_152 (by decide) (fun hc => ?_) (fun hc => ?_)
                · replace hM := h_t hc hM
                  refine lv_iinc (v := (y5 + 1)) (lv' := [(5, .int (y5 + 1)), (7, .int ((gI ι 22 y5.toNatClampNeg) &&& (127 : Int32))), (6, .int ((gI ι 22 y5.toNatClampNeg) >>> ((7 : Int32) &&& 31))), (0, .ref (ad 21)), (1, .ref (ad x1)), (2, .int y2), (3, .int y3), (4, .int y4)]) hx hb dX1_run_188 hl (k := 7) rfl rfl (by decide) rfl (fun ls hl => ?_)
                  refine lv_goto (tgt := 6) hx hb dX1_run_191 (by decide) ?_
                  exact ih (y2) (y3) (y4) ((y5 + 1)) hM hw (lv_sub hl [3, 4, 5, 6, 7, 0] rfl)
                · replace hM := h_f hc hM
                  refine lv_iinc (v := (y4 + (-1))) (lv' := [(4, .int (y4 + (-1))), (7, .int ((gI ι 22 y5.toNatClampNeg) &&& (127 : Int32))), (6, .int ((gI ι 22 y5.toNatClampNeg) >>> ((7 : Int32) &&& 31))), (0, .ref (ad 21)), (1, .ref (ad x1)), (2, .int y2), (3, .int y3), (5, .int y5)]) hx hb dX1_run_155 hl (k := 6) rfl rfl (by decide) rfl (fun ls hl => ?_)
                  refine lv_aload_n hx hb dX1_run_158 rfl (lv_at hl 3 rfl) ?_
                  refine a_getp (q := 23) (σ := aGs 109 [] ι) (o := 21) (T := TX1) (N := 3) C wU_X1 hw rfl (by decide) rfl 1 (by decide) rfl wF_X1_15 (aGs_P rfl rfl) dX1_run_159 ?_
                  refine lv_iload hx hb dX1_run_162 (lv_at hl 0 rfl) ?_
                  refine lv_iconst (v := (1 : Int32)) hx hb dX1_run_164 (by decide) ?_
                  refine lv_isub hx hb dX1_run_165 ?_
                  refine lv_iload hx hb dX1_run_166 (lv_at hl 2 rfl) ?_
                  refine lv_aload_n hx hb dX1_run_168 rfl (lv_at hl 3 rfl) ?_
                  refine a_getp (q := 23) (σ := aGs 109 [] ι) (o := 21) (T := TX1) (N := 3) C wU_X1 hw rfl (by decide) rfl 1 (by decide) rfl wF_X1_15 (aGs_P rfl rfl) dX1_run_169 ?_
                  refine lv_iload hx hb dX1_run_172 (lv_at hl 0 rfl) ?_
                  refine lv_iconst (v := (1 : Int32)) hx hb dX1_run_174 (by decide) ?_
                  refine lv_isub hx hb dX1_run_175 ?_
                  obtain ⟨hi, hM⟩ := h_i hM
                  refine a_lald (σ := aGs 109 [] ι) (o := 23) C hw rfl hi rfl dX1_run_176 ?_
                  refine lv_aload_n hx hb dX1_run_177 rfl (lv_at hl 3 rfl) ?_
                  refine a_getp (q := 23) (σ := aGs 109 [] ι) (o := 21) (T := TX1) (N := 3) C wU_X1 hw rfl (by decide) rfl 1 (by decide) rfl wF_X1_15 (aGs_P rfl rfl) dX1_run_178 ?_
                  refine lv_iload hx hb dX1_run_181 (lv_at hl 0 rfl) ?_
                  obtain ⟨hi, hM⟩ := h_i hM
                  refine a_lald (σ := aGs 109 [] ι) (o := 23) C hw rfl hi rfl dX1_run_183 ?_
                  obtain ⟨r184, hr184, hM⟩ := h_b hM
                  refine a_callS  (σ' := aGs 109 [] r184.2) (v := (some (.long r184.1))) (as := fun ad => [.int ((gI ι 22 y5.toNatClampNeg) >>> ((7 : Int32) &&& 31)), .long (gJ ι 23 ((y4 + (-1)) - (1 : Int32)).toNatClampNeg), .long (gJ ι 23 (y4 + (-1)).toNatClampNeg)]) (rest := [.int ((y4 + (-1)) - (1 : Int32)), .ref (ad 23)]) C hw (cs_X1_joined l hr184) k_X1_joined wM_X1_63 ⟨⟨rfl, rfl⟩, ⟨Nat.le_of_ble_eq_true rfl, Nat.le_of_ble_eq_true rfl⟩⟩ rfl hl rfl (Nat.le_of_ble_eq_true rfl) dX1_run_184 ⟨Nat.zero_le _, Nat.zero_le _⟩ (fun H locs hw => ?_)
                  obtain ⟨hi, hM⟩ := h_i hM
                  refine a_last (σ := aGs 109 [] r184.2) (o := 23) C hw rfl hi rfl dX1_run_187 (fun H locs hw => ?_)
                  have hw : aW D dA ad adV (aGs 109 [] (pJ r184.2 23 ((y4 + (-1)) - (1 : Int32)).toNatClampNeg r184.1)) A s H locs := hw
                  refine lv_iinc (v := (y5 + 1)) (lv' := [(5, .int (y5 + 1)), (4, .int (y4 + (-1))), (7, .int ((gI ι 22 y5.toNatClampNeg) &&& (127 : Int32))), (6, .int ((gI ι 22 y5.toNatClampNeg) >>> ((7 : Int32) &&& 31))), (0, .ref (ad 21)), (1, .ref (ad x1)), (2, .int y2), (3, .int y3)]) hx hb dX1_run_188 hl (k := 7) rfl rfl (by decide) rfl (fun ls hl => ?_)
                  refine lv_goto (tgt := 6) hx hb dX1_run_191 (by decide) ?_
                  exact ih (y2) (y3) ((y4 + (-1))) ((y5 + 1)) hM hw (lv_sub hl [4, 5, 6, 7, 1, 0] rfl)
            · replace hM := h_f hc hM
              refine lv_aload_n hx hb dX1_run_121 rfl (lv_at hl 2 rfl) ?_
              refine a_getp (q := 23) (σ := aGs 109 [] ι) (o := 21) (T := TX1) (N := 3) C wU_X1 hw rfl (by decide) rfl 1 (by decide) rfl wF_X1_15 (aGs_P rfl rfl) dX1_run_122 ?_
              refine lv_iload hx hb dX1_run_125 (lv_at hl 6 rfl) ?_
              refine lv_iconst (v := (1 : Int32)) hx hb dX1_run_127 (by decide) ?_
              refine lv_isub hx hb dX1_run_128 ?_
              refine lv_aload_n hx hb dX1_run_129 rfl (lv_at hl 2 rfl) ?_
              refine a_getp (q := 23) (σ := aGs 109 [] ι) (o := 21) (T := TX1) (N := 3) C wU_X1 hw rfl (by decide) rfl 1 (by decide) rfl wF_X1_15 (aGs_P rfl rfl) dX1_run_130 ?_
              refine lv_iload hx hb dX1_run_133 (lv_at hl 6 rfl) ?_
              refine lv_iconst (v := (1 : Int32)) hx hb dX1_run_135 (by decide) ?_
              refine lv_isub hx hb dX1_run_136 ?_
              obtain ⟨hi, hM⟩ := h_i hM
              refine a_lald (σ := aGs 109 [] ι) (o := 23) C hw rfl hi rfl dX1_run_137 ?_
              refine lv_lneg hx hb dX1_run_138 ?_
              obtain ⟨hi, hM⟩ := h_i hM
              refine a_last (σ := aGs 109 [] ι) (o := 23) C hw rfl hi rfl dX1_run_139 (fun H locs hw => ?_)
              have hw : aW D dA ad adV (aGs 109 [] (pJ ι 23 (y4 - (1 : Int32)).toNatClampNeg (-(gJ ι 23 (y4 - (1 : Int32)).toNatClampNeg)))) A s H locs := hw
              refine lv_goto (tgt := 188) hx hb dX1_run_140 (by decide) ?_
              refine lv_iinc (v := (y5 + 1)) (lv' := [(5, .int (y5 + 1)), (7, .int ((gI ι 22 y5.toNatClampNeg) &&& (127 : Int32))), (6, .int ((gI ι 22 y5.toNatClampNeg) >>> ((7 : Int32) &&& 31))), (0, .ref (ad 21)), (1, .ref (ad x1)), (2, .int y2), (3, .int y3), (4, .int y4)]) hx hb dX1_run_188 hl (k := 7) rfl rfl (by decide) rfl (fun ls hl => ?_)
              refine lv_goto (tgt := 6) hx hb dX1_run_191 (by decide) ?_
              exact ih (y2) (y3) (y4) ((y5 + 1)) hM hw (lv_sub hl [3, 4, 5, 6, 7, 0] rfl)
        · replace hM := h_f hc hM
          refine lv_iload hx hb dX1_run_73 (lv_at hl 6 rfl) ?_
          refine lv_bipush (v := (16 : Int32)) hx hb dX1_run_75 (by decide) ?_
          refine lv_icmp_ge (tgt := 109) hx hb dX1_run_77 (by decide) (fun hc => ?_) (fun hc => ?_)
          · replace hM := h_t hc hM
            refine lv_iload hx hb dX1_run_109 (lv_at hl 1 rfl) ?_
            refine lv_iconst (v := (4 : Int32)) hx hb dX1_run_111 (by decide) ?_
            refine lv_icmp_ne (tgt := 143) hx hb dX1_run_112 (by decide) (fun hc => ?_) (fun hc => ?_)
            · replace hM := h_f hc hM
              refine lv_iload hx hb dX1_run_143 (lv_at hl 1 rfl) ?_
              refine lv_iconst (v := (4 : Int32)) hx hb dX1_run_145 (by decide) ?_
              refine lv_icmp_le (tgt := 188) hx hb dX1_run_146 (by decide) (fun hc => ?_) (fun hc => ?_)
              · replace hM := h_t hc hM
                refine lv_iinc (v := (y5 + 1)) (lv' := [(5, .int (y5 + 1)), (7, .int ((gI ι 22 y5.toNatClampNeg) &&& (127 : Int32))), (6, .int ((gI ι 22 y5.toNatClampNeg) >>> ((7 : Int32) &&& 31))), (0, .ref (ad 21)), (1, .ref (ad x1)), (2, .int y2), (3, .int y3), (4, .int y4)]) hx hb dX1_run_188 hl (k := 7) rfl rfl (by decide) rfl (fun ls hl => ?_)
                refine lv_goto (tgt := 6) hx hb dX1_run_191 (by decide) ?_
                exact ih (y2) (y3) (y4) ((y5 + 1)) hM hw (lv_sub hl [3, 4, 5, 6, 7, 0] rfl)
              · replace hM := h_f hc hM
                refine lv_iload hx hb dX1_run_149 (lv_at hl 6 rfl) ?_
                refine lv_iconst (v := (2 : Int32)) hx hb dX1_run_151 (by decide) ?_
                refine lv_icmp_lt (tgt := 188) hx hb dX1_run_152 (by decide) (fun hc => ?_) (fun hc => ?_)
                · replace hM := h_t hc hM
                  refine lv_iinc (v := (y5 + 1)) (lv' := [(5, .int (y5 + 1)), (7, .int ((gI ι 22 y5.toNatClampNeg) &&& (127 : Int32))), (6, .int ((gI ι 22 y5.toNatClampNeg) >>> ((7 : Int32) &&& 31))), (0, .ref (ad 21)), (1, .ref (ad x1)), (2, .int y2), (3, .int y3), (4, .int y4)]) hx hb dX1_run_188 hl (k := 7) rfl rfl (by decide) rfl (fun ls hl => ?_)
                  refine lv_goto (tgt := 6) hx hb dX1_run_191 (by decide) ?_
                  exact ih (y2) (y3) (y4) ((y5 + 1)) hM hw (lv_sub hl [3, 4, 5, 6, 7, 0] rfl)
                · replace hM := h_f hc hM
                  refine lv_iinc (v := (y4 + (-1))) (lv' := [(4, .int (y4 + (-1))), (7, .int ((gI ι 22 y5.toNatClampNeg) &&& (127 : Int32))), (6, .int ((gI ι 22 y5.toNatClampNeg) >>> ((7 : Int32) &&& 31))), (0, .ref (ad 21)), (1, .ref (ad x1)), (2, .int y2), (3, .int y3), (5, .int y5)]) hx hb dX1_run_155 hl (k := 6) rfl rfl (by decide) rfl (fun ls hl => ?_)
                  refine lv_aload_n hx hb dX1_run_158 rfl (lv_at hl 3 rfl) ?_
                  refine a_getp (q := 23) (σ := aGs 109 [] ι) (o := 21) (T := TX1) (N := 3) C wU_X1 hw rfl (by decide) rfl 1 (by decide) rfl wF_X1_15 (aGs_P rfl rfl) dX1_run_159 ?_
                  refine lv_iload hx hb dX1_run_162 (lv_at hl 0 rfl) ?_
                  refine lv_iconst (v := (1 : Int32)) hx hb dX1_run_164 (by decide) ?_
                  refine lv_isub hx hb dX1_run_165 ?_
                  refine lv_iload hx hb dX1_run_166 (lv_at hl 2 rfl) ?_
                  refine lv_aload_n hx hb dX1_run_168 rfl (lv_at hl 3 rfl) ?_
                  refine a_getp (q := 23) (σ := aGs 109 [] ι) (o := 21) (T := TX1) (N := 3) C wU_X1 hw rfl (by decide) rfl 1 (by decide) rfl wF_X1_15 (aGs_P rfl rfl) dX1_run_169 ?_
                  refine lv_iload hx hb dX1_run_172 (lv_at hl 0 rfl) ?_
                  refine lv_iconst (v := (1 : Int32)) hx hb dX1_run_174 (by decide) ?_
                  refine lv_isub hx hb dX1_run_175 ?_
                  obtain ⟨hi, hM⟩ := h_i hM
                  refine a_lald (σ := aGs 109 [] ι) (o := 23) C hw rfl hi rfl dX1_run_176 ?_
                  refine lv_aload_n hx hb dX1_run_177 rfl (lv_at hl 3 rfl) ?_
                  refine a_getp (q := 23) (σ := aGs 109 [] ι) (o := 21) (T := TX1) (N := 3) C wU_X1 hw rfl (by decide) rfl 1 (by decide) rfl wF_X1_15 (aGs_P rfl rfl) dX1_run_178 ?_
                  refine lv_iload hx hb dX1_run_181 (lv_at hl 0 rfl) ?_
                  obtain ⟨hi, hM⟩ := h_i hM
                  refine a_lald (σ := aGs 109 [] ι) (o := 23) C hw rfl hi rfl dX1_run_183 ?_
                  obtain ⟨r184, hr184, hM⟩ := h_b hM
                  refine a_callS  (σ' := aGs 109 [] r184.2) (v := (some (.long r184.1))) (as := fun ad => [.int ((gI ι 22 y5.toNatClampNeg) >>> ((7 : Int32) &&& 31)), .long (gJ ι 23 ((y4 + (-1)) - (1 : Int32)).toNatClampNeg), .long (gJ ι 23 (y4 + (-1)).toNatClampNeg)]) (rest := [.int ((y4 + (-1)) - (1 : Int32)), .ref (ad 23)]) C hw (cs_X1_joined l hr184) k_X1_joined wM_X1_63 ⟨⟨rfl, rfl⟩, ⟨Nat.le_of_ble_eq_true rfl, Nat.le_of_ble_eq_true rfl⟩⟩ rfl hl rfl (Nat.le_of_ble_eq_true rfl) dX1_run_184 ⟨Nat.zero_le _, Nat.zero_le _⟩ (fun H locs hw => ?_)
                  obtain ⟨hi, hM⟩ := h_i hM
                  refine a_last (σ := aGs 109 [] r184.2) (o := 23) C hw rfl hi rfl dX1_run_187 (fun H locs hw => ?_)
                  have hw : aW D dA ad adV (aGs 109 [] (pJ r184.2 23 ((y4 + (-1)) - (1 : Int32)).toNatClampNeg r184.1)) A s H locs := hw
                  refine lv_iinc (v := (y5 + 1)) (lv' := [(5, .int (y5 + 1)), (4, .int (y4 + (-1))), (7, .int ((gI ι 22 y5.toNatClampNeg) &&& (127 : Int32))), (6, .int ((gI ι 22 y5.toNatClampNeg) >>> ((7 : Int32) &&& 31))), (0, .ref (ad 21)), (1, .ref (ad x1)), (2, .int y2), (3, .int y3)]) hx hb dX1_run_188 hl (k := 7) rfl rfl (by decide) rfl (fun ls hl => ?_)
                  refine lv_goto (tgt := 6) hx hb dX1_run_191 (by decide) ?_
                  exact ih (y2) (y3) ((y4 + (-1))) ((y5 + 1)) hM hw (lv_sub hl [4, 5, 6, 7, 1, 0] rfl)
            · replace hM := h_t hc hM
              refine lv_iload hx hb dX1_run_115 (lv_at hl 6 rfl) ?_
              refine lv_iconst (v := (1 : Int32)) hx hb dX1_run_117 (by decide) ?_
              refine lv_icmp_lt (tgt := 143) hx hb dX1_run_118 (by decide) (fun hc => ?_) (fun hc => ?_)
              · replace hM := h_t hc hM
                refine lv_iload hx hb dX1_run_143 (lv_at hl 1 rfl) ?_
                refine lv_iconst (v := (4 : Int32)) hx hb dX1_run_145 (by decide) ?_
                refine lv_icmp_le (tgt := 188) hx hb dX1_run_146 (by decide) (fun hc => ?_) (fun hc => ?_)
                · replace hM := h_t hc hM
                  refine lv_iinc (v := (y5 + 1)) (lv' := [(5, .int (y5 + 1)), (7, .int ((gI ι 22 y5.toNatClampNeg) &&& (127 : Int32))), (6, .int ((gI ι 22 y5.toNatClampNeg) >>> ((7 : Int32) &&& 31))), (0, .ref (ad 21)), (1, .ref (ad x1)), (2, .int y2), (3, .int y3), (4, .int y4)]) hx hb dX1_run_188 hl (k := 7) rfl rfl (by decide) rfl (fun ls hl => ?_)
                  refine lv_goto (tgt := 6) hx hb dX1_run_191 (by decide) ?_
                  exact ih (y2) (y3) (y4) ((y5 + 1)) hM hw (lv_sub hl [3, 4, 5, 6, 7, 0] rfl)
                · replace hM := h_f hc hM
                  refine lv_iload hx hb dX1_run_149 (lv_at hl 6 rfl) ?_
                  refine lv_iconst (v := (2 : Int32)) hx hb dX1_run_151 (by decide) ?_
                  refine lv_icmp_lt (tgt := 188) hx hb dX1_run_152 (by decide) (fun hc => ?_) (fun hc => ?_)
                  · replace hM := h_t hc hM
                    refine lv_iinc (v := (y5 + 1)) (lv' := [(5, .int (y5 + 1)), (7, .int ((gI ι 22 y5.toNatClampNeg) &&& (127 : Int32))), (6, .int ((gI ι 22 y5.toNatClampNeg) >>> ((7 : Int32) &&& 31))), (0, .ref (ad 21)), (1, .ref (ad x1)), (2, .int y2), (3, .int y3), (4, .int y4)]) hx hb dX1_run_188 hl (k := 7) rfl rfl (by decide) rfl (fun ls hl => ?_)
                    refine lv_goto (tgt := 6) hx hb dX1_run_191 (by decide) ?_
                    exact ih (y2) (y3) (y4) ((y5 + 1)) hM hw (lv_sub hl [3, 4, 5, 6, 7, 0] rfl)
                  · replace hM := h_f hc hM
                    refine lv_iinc (v := (y4 + (-1))) (lv' := [(4, .int (y4 + (-1))), (7, .int ((gI ι 22 y5.toNatClampNeg) &&& (127 : Int32))), (6, .int ((gI ι 22 y5.toNatClampNeg) >>> ((7 : Int32) &&& 31))), (0, .ref (ad 21)), (1, .ref (ad x1)), (2, .int y2), (3, .int y3), (5, .int y5)]) hx hb dX1_run_155 hl (k := 6) rfl rfl (by decide) rfl (fun ls hl => ?_)
                    refine lv_aload_n hx hb dX1_run_158 rfl (lv_at hl 3 rfl) ?_
                    refine a_getp (q := 23) (σ := aGs 109 [] ι) (o := 21) (T := TX1) (N := 3) C wU_X1 hw rfl (by decide) rfl 1 (by decide) rfl wF_X1_15 (aGs_P rfl rfl) dX1_run_159 ?_
                    refine lv_iload hx hb dX1_run_162 (lv_at hl 0 rfl) ?_
                    refine lv_iconst (v := (1 : Int32)) hx hb dX1_run_164 (by decide) ?_
                    refine lv_isub hx hb dX1_run_165 ?_
                    refine lv_iload hx hb dX1_run_166 (lv_at hl 2 rfl) ?_
                    refine lv_aload_n hx hb dX1_run_168 rfl (lv_at hl 3 rfl) ?_
                    refine a_getp (q := 23) (σ := aGs 109 [] ι) (o := 21) (T := TX1) (N := 3) C wU_X1 hw rfl (by decide) rfl 1 (by decide) rfl wF_X1_15 (aGs_P rfl rfl) dX1_run_169 ?_
                    refine lv_iload hx hb dX1_run_172 (lv_at hl 0 rfl) ?_
                    refine lv_iconst (v := (1 : Int32)) hx hb dX1_run_174 (by decide) ?_
                    refine lv_isub hx hb dX1_run_175 ?_
                    obtain ⟨hi, hM⟩ := h_i hM
                    refine a_lald (σ := aGs 109 [] ι) (o := 23) C hw rfl hi rfl dX1_run_176 ?_
                    refine lv_aload_n hx hb dX1_run_177 rfl (lv_at hl 3 rfl) ?_
                    refine a_getp (q := 23) (σ := aGs 109 [] ι) (o := 21) (T := TX1) (N := 3) C wU_X1 hw rfl (by decide) rfl 1 (by decide) rfl wF_X1_15 (aGs_P rfl rfl) dX1_run_178 ?_
                    refine lv_iload hx hb dX1_run_181 (lv_at hl 0 rfl) ?_
                    obtain ⟨hi, hM⟩ := h_i hM
                    refine a_lald (σ := aGs 109 [] ι) (o := 23) C hw rfl hi rfl dX1_run_183 ?_
                    obtain ⟨r184, hr184, hM⟩ := h_b hM
                    refine a_callS  (σ' := aGs 109 [] r184.2) (v := (some (.long r184.1))) (as := fun ad => [.int ((gI ι 22 y5.toNatClampNeg) >>> ((7 : Int32) &&& 31)), .long (gJ ι 23 ((y4 + (-1)) - (1 : Int32)).toNatClampNeg), .long (gJ ι 23 (y4 + (-1)).toNatClampNeg)]) (rest := [.int ((y4 + (-1)) - (1 : Int32)), .ref (ad 23)]) C hw (cs_X1_joined l hr184) k_X1_joined wM_X1_63 ⟨⟨rfl, rfl⟩, ⟨Nat.le_of_ble_eq_true rfl, Nat.le_of_ble_eq_true rfl⟩⟩ rfl hl rfl (Nat.le_of_ble_eq_true rfl) dX1_run_184 ⟨Nat.zero_le _, Nat.zero_le _⟩ (fun H locs hw => ?_)
                    obtain ⟨hi, hM⟩ := h_i hM
                    refine a_last (σ := aGs 109 [] r184.2) (o := 23) C hw rfl hi rfl dX1_run_187 (fun H locs hw => ?_)
                    have hw : aW D dA ad adV (aGs 109 [] (pJ r184.2 23 ((y4 + (-1)) - (1 : Int32)).toNatClampNeg r184.1)) A s H locs := hw
                    refine lv_iinc (v := (y5 + 1)) (lv' := [(5, .int (y5 + 1)), (4, .int (y4 + (-1))), (7, .int ((gI ι 22 y5.toNatClampNeg) &&& (127 : Int32))), (6, .int ((gI ι 22 y5.toNatClampNeg) >>> ((7 : Int32) &&& 31))), (0, .ref (ad 21)), (1, .ref (ad x1)), (2, .int y2), (3, .int y3)]) hx hb dX1_run_188 hl (k := 7) rfl rfl (by decide) rfl (fun ls hl => ?_)
                    refine lv_goto (tgt := 6) hx hb dX1_run_191 (by decide) ?_
                    exact ih (y2) (y3) ((y4 + (-1))) ((y5 + 1)) hM hw (lv_sub hl [4, 5, 6, 7, 1, 0] rfl)
              · replace hM := h_f hc hM
                refine lv_aload_n hx hb dX1_run_121 rfl (lv_at hl 2 rfl) ?_
                refine a_getp (q := 23) (σ := aGs 109 [] ι) (o := 21) (T := TX1) (N := 3) C wU_X1 hw rfl (by decide) rfl 1 (by decide) rfl wF_X1_15 (aGs_P rfl rfl) dX1_run_122 ?_
                refine lv_iload hx hb dX1_run_125 (lv_at hl 6 rfl) ?_
                refine lv_iconst (v := (1 : Int32)) hx hb dX1_run_127 (by decide) ?_
                refine lv_isub hx hb dX1_run_128 ?_
                refine lv_aload_n hx hb dX1_run_129 rfl (lv_at hl 2 rfl) ?_
                refine a_getp (q := 23) (σ := aGs 109 [] ι) (o := 21) (T := TX1) (N := 3) C wU_X1 hw rfl (by decide) rfl 1 (by decide) rfl wF_X1_15 (aGs_P rfl rfl) dX1_run_130 ?_
                refine lv_iload hx hb dX1_run_133 (lv_at hl 6 rfl) ?_
                refine lv_iconst (v := (1 : Int32)) hx hb dX1_run_135 (by decide) ?_
                refine lv_isub hx hb dX1_run_136 ?_
                obtain ⟨hi, hM⟩ := h_i hM
                refine a_lald (σ := aGs 109 [] ι) (o := 23) C hw rfl hi rfl dX1_run_137 ?_
                refine lv_lneg hx hb dX1_run_138 ?_
                obtain ⟨hi, hM⟩ := h_i hM
                refine a_last (σ := aGs 109 [] ι) (o := 23) C hw rfl hi rfl dX1_run_139 (fun H locs hw => ?_)
                have hw : aW D dA ad adV (aGs 109 [] (pJ ι 23 (y4 - (1 : Int32)).toNatClampNeg (-(gJ ι 23 (y4 - (1 : Int32)).toNatClampNeg)))) A s H locs := hw
                refine lv_goto (tgt := 188) hx hb dX1_run_140 (by decide) ?_
                refine lv_iinc (v := (y5 + 1)) (lv' := [(5, .int (y5 + 1)), (7, .int ((gI ι 22 y5.toNatClampNeg) &&& (127 : Int32))), (6, .int ((gI ι 22 y5.toNatClampNeg) >>> ((7 : Int32) &&& 31))), (0, .ref (ad 21)), (1, .ref (ad x1)), (2, .int y2), (3, .int y3), (4, .int y4)]) hx hb dX1_run_188 hl (k := 7) rfl rfl (by decide) rfl (fun ls hl => ?_)
                refine lv_goto (tgt := 6) hx hb dX1_run_191 (by decide) ?_
                exact ih (y2) (y3) (y4) ((y5 + 1)) hM hw (lv_sub hl [3, 4, 5, 6, 7, 0] rfl)
          · replace hM := h_f hc hM
            refine lv_iload hx hb dX1_run_80 (lv_at hl 0 rfl) ?_
            refine lv_iconst (v := (5 : Int32)) hx hb dX1_run_82 (by decide) ?_
            refine lv_icmp_ge (tgt := 109) hx hb dX1_run_83 (by decide) (fun hc => ?_) (fun hc => ?_)
            · replace hM := h_t hc hM
              refine lv_iload hx hb dX1_run_109 (lv_at hl 1 rfl) ?_
              refine lv_iconst (v := (4 : Int32)) hx hb dX1_run_111 (by decide) ?_
              refine lv_icmp_ne (tgt := 143) hx hb dX1_run_112 (by decide) (fun hc => ?_) (fun hc => ?_)
              · replace hM := h_f hc hM
                refine lv_iload hx hb dX1_run_143 (lv_at hl 1 rfl) ?_
                refine lv_iconst (v := (4 : Int32)) hx hb dX1_run_145 (by decide) ?_
                refine lv_icmp_le (tgt := 188) hx hb dX1_run_146 (by decide) (fun hc => ?_) (fun hc => ?_)
                · replace hM := h_t hc hM
                  refine lv_iinc (v := (y5 + 1)) (lv' := [(5, .int (y5 + 1)), (7, .int ((gI ι 22 y5.toNatClampNeg) &&& (127 : Int32))), (6, .int ((gI ι 22 y5.toNatClampNeg) >>> ((7 : Int32) &&& 31))), (0, .ref (ad 21)), (1, .ref (ad x1)), (2, .int y2), (3, .int y3), (4, .int y4)]) hx hb dX1_run_188 hl (k := 7) rfl rfl (by decide) rfl (fun ls hl => ?_)
                  refine lv_goto (tgt := 6) hx hb dX1_run_191 (by decide) ?_
                  exact ih (y2) (y3) (y4) ((y5 + 1)) hM hw (lv_sub hl [3, 4, 5, 6, 7, 0] rfl)
                · replace hM := h_f hc hM
                  refine lv_iload hx hb dX1_run_149 (lv_at hl 6 rfl) ?_
                  refine lv_iconst (v := (2 : Int32)) hx hb dX1_run_151 (by decide) ?_
                  refine lv_icmp_lt (tgt := 188) hx hb dX1_run_152 (by decide) (fun hc => ?_) (fun hc => ?_)
                  · replace hM := h_t hc hM
                    refine lv_iinc (v := (y5 + 1)) (lv' := [(5, .int (y5 + 1)), (7, .int ((gI ι 22 y5.toNatClampNeg) &&& (127 : Int32))), (6, .int ((gI ι 22 y5.toNatClampNeg) >>> ((7 : Int32) &&& 31))), (0, .ref (ad 21)), (1, .ref (ad x1)), (2, .int y2), (3, .int y3), (4, .int y4)]) hx hb dX1_run_188 hl (k := 7) rfl rfl (by decide) rfl (fun ls hl => ?_)
                    refine lv_goto (tgt := 6) hx hb dX1_run_191 (by decide) ?_
                    exact ih (y2) (y3) (y4) ((y5 + 1)) hM hw (lv_sub hl [3, 4, 5, 6, 7, 0] rfl)
                  · replace hM := h_f hc hM
                    refine lv_iinc (v := (y4 + (-1))) (lv' := [(4, .int (y4 + (-1))), (7, .int ((gI ι 22 y5.toNatClampNeg) &&& (127 : Int32))), (6, .int ((gI ι 22 y5.toNatClampNeg) >>> ((7 : Int32) &&& 31))), (0, .ref (ad 21)), (1, .ref (ad x1)), (2, .int y2), (3, .int y3), (5, .int y5)]) hx hb dX1_run_155 hl (k := 6) rfl rfl (by decide) rfl (fun ls hl => ?_)
                    refine lv_aload_n hx hb dX1_run_158 rfl (lv_at hl 3 rfl) ?_
                    refine a_getp (q := 23) (σ := aGs 109 [] ι) (o := 21) (T := TX1) (N := 3) C wU_X1 hw rfl (by decide) rfl 1 (by decide) rfl wF_X1_15 (aGs_P rfl rfl) dX1_run_159 ?_
                    refine lv_iload hx hb dX1_run_162 (lv_at hl 0 rfl) ?_
                    refine lv_iconst (v := (1 : Int32)) hx hb dX1_run_164 (by decide) ?_
                    refine lv_isub hx hb dX1_run_165 ?_
                    refine lv_iload hx hb dX1_run_166 (lv_at hl 2 rfl) ?_
                    refine lv_aload_n hx hb dX1_run_168 rfl (lv_at hl 3 rfl) ?_
                    refine a_getp (q := 23) (σ := aGs 109 [] ι) (o := 21) (T := TX1) (N := 3) C wU_X1 hw rfl (by decide) rfl 1 (by decide) rfl wF_X1_15 (aGs_P rfl rfl) dX1_run_169 ?_
                    refine lv_iload hx hb dX1_run_172 (lv_at hl 0 rfl) ?_
                    refine lv_iconst (v := (1 : Int32)) hx hb dX1_run_174 (by decide) ?_
                    refine lv_isub hx hb dX1_run_175 ?_
                    obtain ⟨hi, hM⟩ := h_i hM
                    refine a_lald (σ := aGs 109 [] ι) (o := 23) C hw rfl hi rfl dX1_run_176 ?_
                    refine lv_aload_n hx hb dX1_run_177 rfl (lv_at hl 3 rfl) ?_
                    refine a_getp (q := 23) (σ := aGs 109 [] ι) (o := 21) (T := TX1) (N := 3) C wU_X1 hw rfl (by decide) rfl 1 (by decide) rfl wF_X1_15 (aGs_P rfl rfl) dX1_run_178 ?_
                    refine lv_iload hx hb dX1_run_181 (lv_at hl 0 rfl) ?_
                    obtain ⟨hi, hM⟩ := h_i hM
                    refine a_lald (σ := aGs 109 [] ι) (o := 23) C hw rfl hi rfl dX1_run_183 ?_
                    obtain ⟨r184, hr184, hM⟩ := h_b hM
                    refine a_callS  (σ' := aGs 109 [] r184.2) (v := (some (.long r184.1))) (as := fun ad => [.int ((gI ι 22 y5.toNatClampNeg) >>> ((7 : Int32) &&& 31)), .long (gJ ι 23 ((y4 + (-1)) - (1 : Int32)).toNatClampNeg), .long (gJ ι 23 (y4 + (-1)).toNatClampNeg)]) (rest := [.int ((y4 + (-1)) - (1 : Int32)), .ref (ad 23)]) C hw (cs_X1_joined l hr184) k_X1_joined wM_X1_63 ⟨⟨rfl, rfl⟩, ⟨Nat.le_of_ble_eq_true rfl, Nat.le_of_ble_eq_true rfl⟩⟩ rfl hl rfl (Nat.le_of_ble_eq_true rfl) dX1_run_184 ⟨Nat.zero_le _, Nat.zero_le _⟩ (fun H locs hw => ?_)
                    obtain ⟨hi, hM⟩ := h_i hM
                    refine a_last (σ := aGs 109 [] r184.2) (o := 23) C hw rfl hi rfl dX1_run_187 (fun H locs hw => ?_)
                    have hw : aW D dA ad adV (aGs 109 [] (pJ r184.2 23 ((y4 + (-1)) - (1 : Int32)).toNatClampNeg r184.1)) A s H locs := hw
                    refine lv_iinc (v := (y5 + 1)) (lv' := [(5, .int (y5 + 1)), (4, .int (y4 + (-1))), (7, .int ((gI ι 22 y5.toNatClampNeg) &&& (127 : Int32))), (6, .int ((gI ι 22 y5.toNatClampNeg) >>> ((7 : Int32) &&& 31))), (0, .ref (ad 21)), (1, .ref (ad x1)), (2, .int y2), (3, .int y3)]) hx hb dX1_run_188 hl (k := 7) rfl rfl (by decide) rfl (fun ls hl => ?_)
                    refine lv_goto (tgt := 6) hx hb dX1_run_191 (by decide) ?_
                    exact ih (y2) (y3) ((y4 + (-1))) ((y5 + 1)) hM hw (lv_sub hl [4, 5, 6, 7, 1, 0] rfl)
              · replace hM := h_t hc hM
                refine lv_iload hx hb dX1_run_115 (lv_at hl 6 rfl) ?_
                refine lv_iconst (v := (1 : Int32)) hx hb dX1_run_117 (by decide) ?_
                refine lv_icmp_lt (tgt := 143) hx hb dX1_run_118 (by decide) (fun hc => ?_) (fun hc => ?_)
                · replace hM := h_t hc hM
                  refine lv_iload hx hb dX1_run_143 (lv_at hl 1 rfl) ?_
                  refine lv_iconst (v := (4 : Int32)) hx hb dX1_run_145 (by decide) ?_
                  refine lv_icmp_le (tgt := 188) hx hb dX1_run_146 (by decide) (fun hc => ?_) (fun hc => ?_)
                  · replace hM := h_t hc hM
                    refine lv_iinc (v := (y5 + 1)) (lv' := [(5, .int (y5 + 1)), (7, .int ((gI ι 22 y5.toNatClampNeg) &&& (127 : Int32))), (6, .int ((gI ι 22 y5.toNatClampNeg) >>> ((7 : Int32) &&& 31))), (0, .ref (ad 21)), (1, .ref (ad x1)), (2, .int y2), (3, .int y3), (4, .int y4)]) hx hb dX1_run_188 hl (k := 7) rfl rfl (by decide) rfl (fun ls hl => ?_)
                    refine lv_goto (tgt := 6) hx hb dX1_run_191 (by decide) ?_
                    exact ih (y2) (y3) (y4) ((y5 + 1)) hM hw (lv_sub hl [3, 4, 5, 6, 7, 0] rfl)
                  · replace hM := h_f hc hM
                    refine lv_iload hx hb dX1_run_149 (lv_at hl 6 rfl) ?_
                    refine lv_iconst (v := (2 : Int32)) hx hb dX1_run_151 (by decide) ?_
                    refine lv_icmp_lt (tgt := 188) hx hb dX1_run_152 (by decide) (fun hc => ?_) (fun hc => ?_)
                    · replace hM := h_t hc hM
                      refine lv_iinc (v := (y5 + 1)) (lv' := [(5, .int (y5 + 1)), (7, .int ((gI ι 22 y5.toNatClampNeg) &&& (127 : Int32))), (6, .int ((gI ι 22 y5.toNatClampNeg) >>> ((7 : Int32) &&& 31))), (0, .ref (ad 21)), (1, .ref (ad x1)), (2, .int y2), (3, .int y3), (4, .int y4)]) hx hb dX1_run_188 hl (k := 7) rfl rfl (by decide) rfl (fun ls hl => ?_)
                      refine lv_goto (tgt := 6) hx hb dX1_run_191 (by decide) ?_
                      exact ih (y2) (y3) (y4) ((y5 + 1)) hM hw (lv_sub hl [3, 4, 5, 6, 7, 0] rfl)
                    · replace hM := h_f hc hM
                      refine lv_iinc (v := (y4 + (-1))) (lv' := [(4, .int (y4 + (-1))), (7, .int ((gI ι 22 y5.toNatClampNeg) &&& (127 : Int32))), (6, .int ((gI ι 22 y5.toNatClampNeg) >>> ((7 : Int32) &&& 31))), (0, .ref (ad 21)), (1, .ref (ad x1)), (2, .int y2), (3, .int y3), (5, .int y5)]) hx hb dX1_run_155 hl (k := 6) rfl rfl (by decide) rfl (fun ls hl => ?_)
                      refine lv_aload_n hx hb dX1_run_158 rfl (lv_at hl 3 rfl) ?_
                      refine a_getp (q := 23) (σ := aGs 109 [] ι) (o := 21) (T := TX1) (N := 3) C wU_X1 hw rfl (by decide) rfl 1 (by decide) rfl wF_X1_15 (aGs_P rfl rfl) dX1_run_159 ?_
                      refine lv_iload hx hb dX1_run_162 (lv_at hl 0 rfl) ?_
                      refine lv_iconst (v := (1 : Int32)) hx hb dX1_run_164 (by decide) ?_
                      refine lv_isub hx hb dX1_run_165 ?_
                      refine lv_iload hx hb dX1_run_166 (lv_at hl 2 rfl) ?_
                      refine lv_aload_n hx hb dX1_run_168 rfl (lv_at hl 3 rfl) ?_
                      refine a_getp (q := 23) (σ := aGs 109 [] ι) (o := 21) (T := TX1) (N := 3) C wU_X1 hw rfl (by decide) rfl 1 (by decide) rfl wF_X1_15 (aGs_P rfl rfl) dX1_run_169 ?_
                      refine lv_iload hx hb dX1_run_172 (lv_at hl 0 rfl) ?_
                      refine lv_iconst (v := (1 : Int32)) hx hb dX1_run_174 (by decide) ?_
                      refine lv_isub hx hb dX1_run_175 ?_
                      obtain ⟨hi, hM⟩ := h_i hM
                      refine a_lald (σ := aGs 109 [] ι) (o := 23) C hw rfl hi rfl dX1_run_176 ?_
                      refine lv_aload_n hx hb dX1_run_177 rfl (lv_at hl 3 rfl) ?_
                      refine a_getp (q := 23) (σ := aGs 109 [] ι) (o := 21) (T := TX1) (N := 3) C wU_X1 hw rfl (by decide) rfl 1 (by decide) rfl wF_X1_15 (aGs_P rfl rfl) dX1_run_178 ?_
                      refine lv_iload hx hb dX1_run_181 (lv_at hl 0 rfl) ?_
                      obtain ⟨hi, hM⟩ := h_i hM
                      refine a_lald (σ := aGs 109 [] ι) (o := 23) C hw rfl hi rfl dX1_run_183 ?_
                      obtain ⟨r184, hr184, hM⟩ := h_b hM
                      refine a_callS  (σ' := aGs 109 [] r184.2) (v := (some (.long r184.1))) (as := fun ad => [.int ((gI ι 22 y5.toNatClampNeg) >>> ((7 : Int32) &&& 31)), .long (gJ ι 23 ((y4 + (-1)) - (1 : Int32)).toNatClampNeg), .long (gJ ι 23 (y4 + (-1)).toNatClampNeg)]) (rest := [.int ((y4 + (-1)) - (1 : Int32)), .ref (ad 23)]) C hw (cs_X1_joined l hr184) k_X1_joined wM_X1_63 ⟨⟨rfl, rfl⟩, ⟨Nat.le_of_ble_eq_true rfl, Nat.le_of_ble_eq_true rfl⟩⟩ rfl hl rfl (Nat.le_of_ble_eq_true rfl) dX1_run_184 ⟨Nat.zero_le _, Nat.zero_le _⟩ (fun H locs hw => ?_)
                      obtain ⟨hi, hM⟩ := h_i hM
                      refine a_last (σ := aGs 109 [] r184.2) (o := 23) C hw rfl hi rfl dX1_run_187 (fun H locs hw => ?_)
                      have hw : aW D dA ad adV (aGs 109 [] (pJ r184.2 23 ((y4 + (-1)) - (1 : Int32)).toNatClampNeg r184.1)) A s H locs := hw
                      refine lv_iinc (v := (y5 + 1)) (lv' := [(5, .int (y5 + 1)), (4, .int (y4 + (-1))), (7, .int ((gI ι 22 y5.toNatClampNeg) &&& (127 : Int32))), (6, .int ((gI ι 22 y5.toNatClampNeg) >>> ((7 : Int32) &&& 31))), (0, .ref (ad 21)), (1, .ref (ad x1)), (2, .int y2), (3, .int y3)]) hx hb dX1_run_188 hl (k := 7) rfl rfl (by decide) rfl (fun ls hl => ?_)
                      refine lv_goto (tgt := 6) hx hb dX1_run_191 (by decide) ?_
                      exact ih (y2) (y3) ((y4 + (-1))) ((y5 + 1)) hM hw (lv_sub hl [4, 5, 6, 7, 1, 0] rfl)
                · replace hM := h_f hc hM
                  refine lv_aload_n hx hb dX1_run_121 rfl (lv_at hl 2 rfl) ?_
                  refine a_getp (q := 23) (σ := aGs 109 [] ι) (o := 21) (T := TX1) (N := 3) C wU_X1 hw rfl (by decide) rfl 1 (by decide) rfl wF_X1_15 (aGs_P rfl rfl) dX1_run_122 ?_
                  refine lv_iload hx hb dX1_run_125 (lv_at hl 6 rfl) ?_
                  refine lv_iconst (v := (1 : Int32)) hx hb dX1_run_127 (by decide) ?_
                  refine lv_isub hx hb dX1_run_128 ?_
                  refine lv_aload_n hx hb dX1_run_129 rfl (lv_at hl 2 rfl) ?_
                  refine a_getp (q := 23) (σ := aGs 109 [] ι) (o := 21) (T := TX1) (N := 3) C wU_X1 hw rfl (by decide) rfl 1 (by decide) rfl wF_X1_15 (aGs_P rfl rfl) dX1_run_130 ?_
                  refine lv_iload hx hb dX1_run_133 (lv_at hl 6 rfl) ?_
                  refine lv_iconst (v := (1 : Int32)) hx hb dX1_run_135 (by decide) ?_
                  refine lv_isub hx hb dX1_run_136 ?_
                  obtain ⟨hi, hM⟩ := h_i hM
                  refine a_lald (σ := aGs 109 [] ι) (o := 23) C hw rfl hi rfl dX1_run_137 ?_
                  refine lv_lneg hx hb dX1_run_138 ?_
                  obtain ⟨hi, hM⟩ := h_i hM
                  refine a_last (σ := aGs 109 [] ι) (o := 23) C hw rfl hi rfl dX1_run_139 (fun H locs hw => ?_)
                  have hw : aW D dA ad adV (aGs 109 [] (pJ ι 23 (y4 - (1 : Int32)).toNatClampNeg (-(gJ ι 23 (y4 - (1 : Int32)).toNatClampNeg)))) A s H locs := hw
                  refine lv_goto (tgt := 188) hx hb dX1_run_140 (by decide) ?_
                  refine lv_iinc (v := (y5 + 1)) (lv' := [(5, .int (y5 + 1)), (7, .int ((gI ι 22 y5.toNatClampNeg) &&& (127 : Int32))), (6, .int ((gI ι 22 y5.toNatClampNeg) >>> ((7 : Int32) &&& 31))), (0, .ref (ad 21)), (1, .ref (ad x1)), (2, .int y2), (3, .int y3), (4, .int y4)]) hx hb dX1_run_188 hl (k := 7) rfl rfl (by decide) rfl (fun ls hl => ?_)
                  refine lv_goto (tgt := 6) hx hb dX1_run_191 (by decide) ?_
                  exact ih (y2) (y3) (y4) ((y5 + 1)) hM hw (lv_sub hl [3, 4, 5, 6, 7, 0] rfl)
            · replace hM := h_f hc hM
              refine lv_aload_n hx hb dX1_run_86 rfl (lv_at hl 2 rfl) ?_
              refine a_getp (q := 23) (σ := aGs 109 [] ι) (o := 21) (T := TX1) (N := 3) C wU_X1 hw rfl (by decide) rfl 1 (by decide) rfl wF_X1_15 (aGs_P rfl rfl) dX1_run_87 ?_
              refine lv_iload hx hb dX1_run_90 (lv_at hl 6 rfl) ?_
              refine lv_iload hx hb dX1_run_92 (lv_at hl 1 rfl) ?_
              refine lv_iload hx hb dX1_run_94 (lv_at hl 0 rfl) ?_
              refine lv_aload_n hx hb dX1_run_96 rfl (lv_at hl 3 rfl) ?_
              refine lv_iload_n hx hb dX1_run_97 rfl (lv_at hl 4 rfl) ?_
              refine lv_iload_n hx hb dX1_run_98 rfl (lv_at hl 5 rfl) ?_
              obtain ⟨r99, hr99, hM⟩ := h_b hM
              refine a_callS  (σ' := aGs 109 [] r99.2) (v := (some (.long r99.1))) (as := fun ad => [.int ((gI ι 22 y5.toNatClampNeg) >>> ((7 : Int32) &&& 31)), .int ((gI ι 22 y5.toNatClampNeg) &&& (127 : Int32)), .ref (ad x1), .int y2, .int y3]) (rest := [.int y4, .ref (ad 23)]) C hw (cs_X1_ofTrait l (hx1) hr99) k_X1_ofTrait wM_X1_59 ⟨⟨rfl, rfl⟩, ⟨Nat.le_of_ble_eq_true rfl, Nat.le_of_ble_eq_true rfl⟩⟩ rfl hl rfl (Nat.le_of_ble_eq_true rfl) dX1_run_99 ⟨Nat.zero_le _, Nat.zero_le _⟩ (fun H locs hw => ?_)
              obtain ⟨hi, hM⟩ := h_i hM
              refine a_last (σ := aGs 109 [] r99.2) (o := 23) C hw rfl hi rfl dX1_run_102 (fun H locs hw => ?_)
              have hw : aW D dA ad adV (aGs 109 [] (pJ r99.2 23 y4.toNatClampNeg r99.1)) A s H locs := hw
              refine lv_iinc (v := (y4 + 1)) (lv' := [(4, .int (y4 + 1)), (7, .int ((gI ι 22 y5.toNatClampNeg) &&& (127 : Int32))), (6, .int ((gI ι 22 y5.toNatClampNeg) >>> ((7 : Int32) &&& 31))), (0, .ref (ad 21)), (1, .ref (ad x1)), (2, .int y2), (3, .int y3), (5, .int y5)]) hx hb dX1_run_103 hl (k := 6) rfl rfl (by decide) rfl (fun ls hl => ?_)
              refine lv_goto (tgt := 188) hx hb dX1_run_106 (by decide) ?_
              refine lv_iinc (v := (y5 + 1)) (lv' := [(5, .int (y5 + 1)), (4, .int (y4 + 1)), (7, .int ((gI ι 22 y5.toNatClampNeg) &&& (127 : Int32))), (6, .int ((gI ι 22 y5.toNatClampNeg) >>> ((7 : Int32) &&& 31))), (0, .ref (ad 21)), (1, .ref (ad x1)), (2, .int y2), (3, .int y3)]) hx hb dX1_run_188 hl (k := 7) rfl rfl (by decide) rfl (fun ls hl => ?_)
              refine lv_goto (tgt := 6) hx hb dX1_run_191 (by decide) ?_
              exact ih (y2) (y3) ((y4 + 1)) ((y5 + 1)) hM hw (lv_sub hl [4, 5, 6, 7, 1, 0] rfl)
      · replace hM := h_t hc hM
        refine lv_iload hx hb dX1_run_44 (lv_at hl 6 rfl) ?_
        refine lv_bipush (v := (16 : Int32)) hx hb dX1_run_46 (by decide) ?_
        refine lv_icmp_ge (tgt := 67) hx hb dX1_run_48 (by decide) (fun hc => ?_) (fun hc => ?_)
        · replace hM := h_t hc hM
          refine lv_iload hx hb dX1_run_67 (lv_at hl 1 rfl) ?_
          refine lv_iconst (v := (4 : Int32)) hx hb dX1_run_69 (by decide) ?_
          refine lv_icmp_ge (tgt := 109) hx hb dX1_run_70 (by decide) (fun hc => ?_) (fun hc => ?_)
          · replace hM := h_t hc hM
            refine lv_iload hx hb dX1_run_109 (lv_at hl 1 rfl) ?_
            refine lv_iconst (v := (4 : Int32)) hx hb dX1_run_111 (by decide) ?_
            refine lv_icmp_ne (tgt := 143) hx hb dX1_run_112 (by decide) (fun hc => ?_) (fun hc => ?_)
            · replace hM := h_f hc hM
              refine lv_iload hx hb dX1_run_143 (lv_at hl 1 rfl) ?_
              refine lv_iconst (v := (4 : Int32)) hx hb dX1_run_145 (by decide) ?_
              refine lv_icmp_le (tgt := 188) hx hb dX1_run_146 (by decide) (fun hc => ?_) (fun hc => ?_)
              · replace hM := h_t hc hM
                refine lv_iinc (v := (y5 + 1)) (lv' := [(5, .int (y5 + 1)), (7, .int ((gI ι 22 y5.toNatClampNeg) &&& (127 : Int32))), (6, .int ((gI ι 22 y5.toNatClampNeg) >>> ((7 : Int32) &&& 31))), (0, .ref (ad 21)), (1, .ref (ad x1)), (2, .int y2), (3, .int y3), (4, .int y4)]) hx hb dX1_run_188 hl (k := 7) rfl rfl (by decide) rfl (fun ls hl => ?_)
                refine lv_goto (tgt := 6) hx hb dX1_run_191 (by decide) ?_
                exact ih (y2) (y3) (y4) ((y5 + 1)) hM hw (lv_sub hl [3, 4, 5, 6, 7, 0] rfl)
              · replace hM := h_f hc hM
                refine lv_iload hx hb dX1_run_149 (lv_at hl 6 rfl) ?_
                refine lv_iconst (v := (2 : Int32)) hx hb dX1_run_151 (by decide) ?_
                refine lv_icmp_lt (tgt := 188) hx hb dX1_run_152 (by decide) (fun hc => ?_) (fun hc => ?_)
                · replace hM := h_t hc hM
                  refine lv_iinc (v := (y5 + 1)) (lv' := [(5, .int (y5 + 1)), (7, .int ((gI ι 22 y5.toNatClampNeg) &&& (127 : Int32))), (6, .int ((gI ι 22 y5.toNatClampNeg) >>> ((7 : Int32) &&& 31))), (0, .ref (ad 21)), (1, .ref (ad x1)), (2, .int y2), (3, .int y3), (4, .int y4)]) hx hb dX1_run_188 hl (k := 7) rfl rfl (by decide) rfl (fun ls hl => ?_)
                  refine lv_goto (tgt := 6) hx hb dX1_run_191 (by decide) ?_
                  exact ih (y2) (y3) (y4) ((y5 + 1)) hM hw (lv_sub hl [3, 4, 5, 6, 7, 0] rfl)
                · replace hM := h_f hc hM
                  refine lv_iinc (v := (y4 + (-1))) (lv' := [(4, .int (y4 + (-1))), (7, .int ((gI ι 22 y5.toNatClampNeg) &&& (127 : Int32))), (6, .int ((gI ι 22 y5.toNatClampNeg) >>> ((7 : Int32) &&& 31))), (0, .ref (ad 21)), (1, .ref (ad x1)), (2, .int y2), (3, .int y3), (5, .int y5)]) hx hb dX1_run_155 hl (k := 6) rfl rfl (by decide) rfl (fun ls hl => ?_)
                  refine lv_aload_n hx hb dX1_run_158 rfl (lv_at hl 3 rfl) ?_
                  refine a_getp (q := 23) (σ := aGs 109 [] ι) (o := 21) (T := TX1) (N := 3) C wU_X1 hw rfl (by decide) rfl 1 (by decide) rfl wF_X1_15 (aGs_P rfl rfl) dX1_run_159 ?_
                  refine lv_iload hx hb dX1_run_162 (lv_at hl 0 rfl) ?_
                  refine lv_iconst (v := (1 : Int32)) hx hb dX1_run_164 (by decide) ?_
                  refine lv_isub hx hb dX1_run_165 ?_
                  refine lv_iload hx hb dX1_run_166 (lv_at hl 2 rfl) ?_
                  refine lv_aload_n hx hb dX1_run_168 rfl (lv_at hl 3 rfl) ?_
                  refine a_getp (q := 23) (σ := aGs 109 [] ι) (o := 21) (T := TX1) (N := 3) C wU_X1 hw rfl (by decide) rfl 1 (by decide) rfl wF_X1_15 (aGs_P rfl rfl) dX1_run_169 ?_
                  refine lv_iload hx hb dX1_run_172 (lv_at hl 0 rfl) ?_
                  refine lv_iconst (v := (1 : Int32)) hx hb dX1_run_174 (by decide) ?_
                  refine lv_isub hx hb dX1_run_175 ?_
                  obtain ⟨hi, hM⟩ := h_i hM
                  refine a_lald (σ := aGs 109 [] ι) (o := 23) C hw rfl hi rfl dX1_run_176 ?_
                  refine lv_aload_n hx hb dX1_run_177 rfl (lv_at hl 3 rfl) ?_
                  refine a_getp (q := 23) (σ := aGs 109 [] ι) (o := 21) (T := TX1) (N := 3) C wU_X1 hw rfl (by decide) rfl 1 (by decide) rfl wF_X1_15 (aGs_P rfl rfl) dX1_run_178 ?_
                  refine lv_iload hx hb dX1_run_181 (lv_at hl 0 rfl) ?_
                  obtain ⟨hi, hM⟩ := h_i hM
                  refine a_lald (σ := aGs 109 [] ι) (o := 23) C hw rfl hi rfl dX1_run_183 ?_
                  obtain ⟨r184, hr184, hM⟩ := h_b hM
                  refine a_callS  (σ' := aGs 109 [] r184.2) (v := (some (.long r184.1))) (as := fun ad => [.int ((gI ι 22 y5.toNatClampNeg) >>> ((7 : Int32) &&& 31)), .long (gJ ι 23 ((y4 + (-1)) - (1 : Int32)).toNatClampNeg), .long (gJ ι 23 (y4 + (-1)).toNatClampNeg)]) (rest := [.int ((y4 + (-1)) - (1 : Int32)), .ref (ad 23)]) C hw (cs_X1_joined l hr184) k_X1_joined wM_X1_63 ⟨⟨rfl, rfl⟩, ⟨Nat.le_of_ble_eq_true rfl, Nat.le_of_ble_eq_true rfl⟩⟩ rfl hl rfl (Nat.le_of_ble_eq_true rfl) dX1_run_184 ⟨Nat.zero_le _, Nat.zero_le _⟩ (fun H locs hw => ?_)
                  obtain ⟨hi, hM⟩ := h_i hM
                  refine a_last (σ := aGs 109 [] r184.2) (o := 23) C hw rfl hi rfl dX1_run_187 (fun H locs hw => ?_)
                  have hw : aW D dA ad adV (aGs 109 [] (pJ r184.2 23 ((y4 + (-1)) - (1 : Int32)).toNatClampNeg r184.1)) A s H locs := hw
                  refine lv_iinc (v := (y5 + 1)) (lv' := [(5, .int (y5 + 1)), (4, .int (y4 + (-1))), (7, .int ((gI ι 22 y5.toNatClampNeg) &&& (127 : Int32))), (6, .int ((gI ι 22 y5.toNatClampNeg) >>> ((7 : Int32) &&& 31))), (0, .ref (ad 21)), (1, .ref (ad x1)), (2, .int y2), (3, .int y3)]) hx hb dX1_run_188 hl (k := 7) rfl rfl (by decide) rfl (fun ls hl => ?_)
                  refine lv_goto (tgt := 6) hx hb dX1_run_191 (by decide) ?_
                  exact ih (y2) (y3) ((y4 + (-1))) ((y5 + 1)) hM hw (lv_sub hl [4, 5, 6, 7, 1, 0] rfl)
            · replace hM := h_t hc hM
              refine lv_iload hx hb dX1_run_115 (lv_at hl 6 rfl) ?_
              refine lv_iconst (v := (1 : Int32)) hx hb dX1_run_117 (by decide) ?_
              refine lv_icmp_lt (tgt := 143) hx hb dX1_run_118 (by decide) (fun hc => ?_) (fun hc => ?_)
              · replace hM := h_t hc hM
                refine lv_iload hx hb dX1_run_143 (lv_at hl 1 rfl) ?_
                refine lv_iconst (v := (4 : Int32)) hx hb dX1_run_145 (by decide) ?_
                refine lv_icmp_le (tgt := 188) hx hb dX1_run_146 (by decide) (fun hc => ?_) (fun hc => ?_)
                · replace hM := h_t hc hM
                  refine lv_iinc (v := (y5 + 1)) (lv' := [(5, .int (y5 + 1)), (7, .int ((gI ι 22 y5.toNatClampNeg) &&& (127 : Int32))), (6, .int ((gI ι 22 y5.toNatClampNeg) >>> ((7 : Int32) &&& 31))), (0, .ref (ad 21)), (1, .ref (ad x1)), (2, .int y2), (3, .int y3), (4, .int y4)]) hx hb dX1_run_188 hl (k := 7) rfl rfl (by decide) rfl (fun ls hl => ?_)
                  refine lv_goto (tgt := 6) hx hb dX1_run_191 (by decide) ?_
                  exact ih (y2) (y3) (y4) ((y5 + 1)) hM hw (lv_sub hl [3, 4, 5, 6, 7, 0] rfl)
                · replace hM := h_f hc hM
                  refine lv_iload hx hb dX1_run_149 (lv_at hl 6 rfl) ?_
                  refine lv_iconst (v := (2 : Int32)) hx hb dX1_run_151 (by decide) ?_
                  refine lv_icmp_lt (tgt := 188) hx hb dX1_run_152 (by decide) (fun hc => ?_) (fun hc => ?_)
                  · replace hM := h_t hc hM
                    refine lv_iinc (v := (y5 + 1)) (lv' := [(5, .int (y5 + 1)), (7, .int ((gI ι 22 y5.toNatClampNeg) &&& (127 : Int32))), (6, .int ((gI ι 22 y5.toNatClampNeg) >>> ((7 : Int32) &&& 31))), (0, .ref (ad 21)), (1, .ref (ad x1)), (2, .int y2), (3, .int y3), (4, .int y4)]) hx hb dX1_run_188 hl (k := 7) rfl rfl (by decide) rfl (fun ls hl => ?_)
                    refine lv_goto (tgt := 6) hx hb dX1_run_191 (by decide) ?_
                    exact ih (y2) (y3) (y4) ((y5 + 1)) hM hw (lv_sub hl [3, 4, 5, 6, 7, 0] rfl)
                  · replace hM := h_f hc hM
                    refine lv_iinc (v := (y4 + (-1))) (lv' := [(4, .int (y4 + (-1))), (7, .int ((gI ι 22 y5.toNatClampNeg) &&& (127 : Int32))), (6, .int ((gI ι 22 y5.toNatClampNeg) >>> ((7 : Int32) &&& 31))), (0, .ref (ad 21)), (1, .ref (ad x1)), (2, .int y2), (3, .int y3), (5, .int y5)]) hx hb dX1_run_155 hl (k := 6) rfl rfl (by decide) rfl (fun ls hl => ?_)
                    refine lv_aload_n hx hb dX1_run_158 rfl (lv_at hl 3 rfl) ?_
                    refine a_getp (q := 23) (σ := aGs 109 [] ι) (o := 21) (T := TX1) (N := 3) C wU_X1 hw rfl (by decide) rfl 1 (by decide) rfl wF_X1_15 (aGs_P rfl rfl) dX1_run_159 ?_
                    refine lv_iload hx hb dX1_run_162 (lv_at hl 0 rfl) ?_
                    refine lv_iconst (v := (1 : Int32)) hx hb dX1_run_164 (by decide) ?_
                    refine lv_isub hx hb dX1_run_165 ?_
                    refine lv_iload hx hb dX1_run_166 (lv_at hl 2 rfl) ?_
                    refine lv_aload_n hx hb dX1_run_168 rfl (lv_at hl 3 rfl) ?_
                    refine a_getp (q := 23) (σ := aGs 109 [] ι) (o := 21) (T := TX1) (N := 3) C wU_X1 hw rfl (by decide) rfl 1 (by decide) rfl wF_X1_15 (aGs_P rfl rfl) dX1_run_169 ?_
                    refine lv_iload hx hb dX1_run_172 (lv_at hl 0 rfl) ?_
                    refine lv_iconst (v := (1 : Int32)) hx hb dX1_run_174 (by decide) ?_
                    refine lv_isub hx hb dX1_run_175 ?_
                    obtain ⟨hi, hM⟩ := h_i hM
                    refine a_lald (σ := aGs 109 [] ι) (o := 23) C hw rfl hi rfl dX1_run_176 ?_
                    refine lv_aload_n hx hb dX1_run_177 rfl (lv_at hl 3 rfl) ?_
                    refine a_getp (q := 23) (σ := aGs 109 [] ι) (o := 21) (T := TX1) (N := 3) C wU_X1 hw rfl (by decide) rfl 1 (by decide) rfl wF_X1_15 (aGs_P rfl rfl) dX1_run_178 ?_
                    refine lv_iload hx hb dX1_run_181 (lv_at hl 0 rfl) ?_
                    obtain ⟨hi, hM⟩ := h_i hM
                    refine a_lald (σ := aGs 109 [] ι) (o := 23) C hw rfl hi rfl dX1_run_183 ?_
                    obtain ⟨r184, hr184, hM⟩ := h_b hM
                    refine a_callS  (σ' := aGs 109 [] r184.2) (v := (some (.long r184.1))) (as := fun ad => [.int ((gI ι 22 y5.toNatClampNeg) >>> ((7 : Int32) &&& 31)), .long (gJ ι 23 ((y4 + (-1)) - (1 : Int32)).toNatClampNeg), .long (gJ ι 23 (y4 + (-1)).toNatClampNeg)]) (rest := [.int ((y4 + (-1)) - (1 : Int32)), .ref (ad 23)]) C hw (cs_X1_joined l hr184) k_X1_joined wM_X1_63 ⟨⟨rfl, rfl⟩, ⟨Nat.le_of_ble_eq_true rfl, Nat.le_of_ble_eq_true rfl⟩⟩ rfl hl rfl (Nat.le_of_ble_eq_true rfl) dX1_run_184 ⟨Nat.zero_le _, Nat.zero_le _⟩ (fun H locs hw => ?_)
                    obtain ⟨hi, hM⟩ := h_i hM
                    refine a_last (σ := aGs 109 [] r184.2) (o := 23) C hw rfl hi rfl dX1_run_187 (fun H locs hw => ?_)
                    have hw : aW D dA ad adV (aGs 109 [] (pJ r184.2 23 ((y4 + (-1)) - (1 : Int32)).toNatClampNeg r184.1)) A s H locs := hw
                    refine lv_iinc (v := (y5 + 1)) (lv' := [(5, .int (y5 + 1)), (4, .int (y4 + (-1))), (7, .int ((gI ι 22 y5.toNatClampNeg) &&& (127 : Int32))), (6, .int ((gI ι 22 y5.toNatClampNeg) >>> ((7 : Int32) &&& 31))), (0, .ref (ad 21)), (1, .ref (ad x1)), (2, .int y2), (3, .int y3)]) hx hb dX1_run_188 hl (k := 7) rfl rfl (by decide) rfl (fun ls hl => ?_)
                    refine lv_goto (tgt := 6) hx hb dX1_run_191 (by decide) ?_
                    exact ih (y2) (y3) ((y4 + (-1))) ((y5 + 1)) hM hw (lv_sub hl [4, 5, 6, 7, 1, 0] rfl)
              · replace hM := h_f hc hM
                refine lv_aload_n hx hb dX1_run_121 rfl (lv_at hl 2 rfl) ?_
                refine a_getp (q := 23) (σ := aGs 109 [] ι) (o := 21) (T := TX1) (N := 3) C wU_X1 hw rfl (by decide) rfl 1 (by decide) rfl wF_X1_15 (aGs_P rfl rfl) dX1_run_122 ?_
                refine lv_iload hx hb dX1_run_125 (lv_at hl 6 rfl) ?_
                refine lv_iconst (v := (1 : Int32)) hx hb dX1_run_127 (by decide) ?_
                refine lv_isub hx hb dX1_run_128 ?_
                refine lv_aload_n hx hb dX1_run_129 rfl (lv_at hl 2 rfl) ?_
                refine a_getp (q := 23) (σ := aGs 109 [] ι) (o := 21) (T := TX1) (N := 3) C wU_X1 hw rfl (by decide) rfl 1 (by decide) rfl wF_X1_15 (aGs_P rfl rfl) dX1_run_130 ?_
                refine lv_iload hx hb dX1_run_133 (lv_at hl 6 rfl) ?_
                refine lv_iconst (v := (1 : Int32)) hx hb dX1_run_135 (by decide) ?_
                refine lv_isub hx hb dX1_run_136 ?_
                obtain ⟨hi, hM⟩ := h_i hM
                refine a_lald (σ := aGs 109 [] ι) (o := 23) C hw rfl hi rfl dX1_run_137 ?_
                refine lv_lneg hx hb dX1_run_138 ?_
                obtain ⟨hi, hM⟩ := h_i hM
                refine a_last (σ := aGs 109 [] ι) (o := 23) C hw rfl hi rfl dX1_run_139 (fun H locs hw => ?_)
                have hw : aW D dA ad adV (aGs 109 [] (pJ ι 23 (y4 - (1 : Int32)).toNatClampNeg (-(gJ ι 23 (y4 - (1 : Int32)).toNatClampNeg)))) A s H locs := hw
                refine lv_goto (tgt := 188) hx hb dX1_run_140 (by decide) ?_
                refine lv_iinc (v := (y5 + 1)) (lv' := [(5, .int (y5 + 1)), (7, .int ((gI ι 22 y5.toNatClampNeg) &&& (127 : Int32))), (6, .int ((gI ι 22 y5.toNatClampNeg) >>> ((7 : Int32) &&& 31))), (0, .ref (ad 21)), (1, .ref (ad x1)), (2, .int y2), (3, .int y3), (4, .int y4)]) hx hb dX1_run_188 hl (k := 7) rfl rfl (by decide) rfl (fun ls hl => ?_)
                refine lv_goto (tgt := 6) hx hb dX1_run_191 (by decide) ?_
                exact ih (y2) (y3) (y4) ((y5 + 1)) hM hw (lv_sub hl [3, 4, 5, 6, 7, 0] rfl)
          · replace hM := h_f hc hM
            refine lv_iload hx hb dX1_run_73 (lv_at hl 6 rfl) ?_
            refine lv_bipush (v := (16 : Int32)) hx hb dX1_run_75 (by decide) ?_
            refine lv_icmp_ge (tgt := 109) hx hb dX1_run_77 (by decide) (fun hc => ?_) (fun hc => ?_)
            · replace hM := h_t hc hM
              refine lv_iload hx hb dX1_run_109 (lv_at hl 1 rfl) ?_
              refine lv_iconst (v := (4 : Int32)) hx hb dX1_run_111 (by decide) ?_
              refine lv_icmp_ne (tgt := 143) hx hb dX1_run_112 (by decide) (fun hc => ?_) (fun hc => ?_)
              · replace hM := h_f hc hM
                refine lv_iload hx hb dX1_run_143 (lv_at hl 1 rfl) ?_
                refine lv_iconst (v := (4 : Int32)) hx hb dX1_run_145 (by decide) ?_
                refine lv_icmp_le (tgt := 188) hx hb dX1_run_146 (by decide) (fun hc => ?_) (fun hc => ?_)
                · replace hM := h_t hc hM
                  refine lv_iinc (v := (y5 + 1)) (lv' := [(5, .int (y5 + 1)), (7, .int ((gI ι 22 y5.toNatClampNeg) &&& (127 : Int32))), (6, .int ((gI ι 22 y5.toNatClampNeg) >>> ((7 : Int32) &&& 31))), (0, .ref (ad 21)), (1, .ref (ad x1)), (2, .int y2), (3, .int y3), (4, .int y4)]) hx hb dX1_run_188 hl (k := 7) rfl rfl (by decide) rfl (fun ls hl => ?_)
                  refine lv_goto (tgt := 6) hx hb dX1_run_191 (by decide) ?_
                  exact ih (y2) (y3) (y4) ((y5 + 1)) hM hw (lv_sub hl [3, 4, 5, 6, 7, 0] rfl)
                · replace hM := h_f hc hM
                  refine lv_iload hx hb dX1_run_149 (lv_at hl 6 rfl) ?_
                  refine lv_iconst (v := (2 : Int32)) hx hb dX1_run_151 (by decide) ?_
                  refine lv_icmp_lt (tgt := 188) hx hb dX1_run_152 (by decide) (fun hc => ?_) (fun hc => ?_)
                  · replace hM := h_t hc hM
                    refine lv_iinc (v := (y5 + 1)) (lv' := [(5, .int (y5 + 1)), (7, .int ((gI ι 22 y5.toNatClampNeg) &&& (127 : Int32))), (6, .int ((gI ι 22 y5.toNatClampNeg) >>> ((7 : Int32) &&& 31))), (0, .ref (ad 21)), (1, .ref (ad x1)), (2, .int y2), (3, .int y3), (4, .int y4)]) hx hb dX1_run_188 hl (k := 7) rfl rfl (by decide) rfl (fun ls hl => ?_)
                    refine lv_goto (tgt := 6) hx hb dX1_run_191 (by decide) ?_
                    exact ih (y2) (y3) (y4) ((y5 + 1)) hM hw (lv_sub hl [3, 4, 5, 6, 7, 0] rfl)
                  · replace hM := h_f hc hM
                    refine lv_iinc (v := (y4 + (-1))) (lv' := [(4, .int (y4 + (-1))), (7, .int ((gI ι 22 y5.toNatClampNeg) &&& (127 : Int32))), (6, .int ((gI ι 22 y5.toNatClampNeg) >>> ((7 : Int32) &&& 31))), (0, .ref (ad 21)), (1, .ref (ad x1)), (2, .int y2), (3, .int y3), (5, .int y5)]) hx hb dX1_run_155 hl (k := 6) rfl rfl (by decide) rfl (fun ls hl => ?_)
                    refine lv_aload_n hx hb dX1_run_158 rfl (lv_at hl 3 rfl) ?_
                    refine a_getp (q := 23) (σ := aGs 109 [] ι) (o := 21) (T := TX1) (N := 3) C wU_X1 hw rfl (by decide) rfl 1 (by decide) rfl wF_X1_15 (aGs_P rfl rfl) dX1_run_159 ?_
                    refine lv_iload hx hb dX1_run_162 (lv_at hl 0 rfl) ?_
                    refine lv_iconst (v := (1 : Int32)) hx hb dX1_run_164 (by decide) ?_
                    refine lv_isub hx hb dX1_run_165 ?_
                    refine lv_iload hx hb dX1_run_166 (lv_at hl 2 rfl) ?_
                    refine lv_aload_n hx hb dX1_run_168 rfl (lv_at hl 3 rfl) ?_
                    refine a_getp (q := 23) (σ := aGs 109 [] ι) (o := 21) (T := TX1) (N := 3) C wU_X1 hw rfl (by decide) rfl 1 (by decide) rfl wF_X1_15 (aGs_P rfl rfl) dX1_run_169 ?_
                    refine lv_iload hx hb dX1_run_172 (lv_at hl 0 rfl) ?_
                    refine lv_iconst (v := (1 : Int32)) hx hb dX1_run_174 (by decide) ?_
                    refine lv_isub hx hb dX1_run_175 ?_
                    obtain ⟨hi, hM⟩ := h_i hM
                    refine a_lald (σ := aGs 109 [] ι) (o := 23) C hw rfl hi rfl dX1_run_176 ?_
                    refine lv_aload_n hx hb dX1_run_177 rfl (lv_at hl 3 rfl) ?_
                    refine a_getp (q := 23) (σ := aGs 109 [] ι) (o := 21) (T := TX1) (N := 3) C wU_X1 hw rfl (by decide) rfl 1 (by decide) rfl wF_X1_15 (aGs_P rfl rfl) dX1_run_178 ?_
                    refine lv_iload hx hb dX1_run_181 (lv_at hl 0 rfl) ?_
                    obtain ⟨hi, hM⟩ := h_i hM
                    refine a_lald (σ := aGs 109 [] ι) (o := 23) C hw rfl hi rfl dX1_run_183 ?_
                    obtain ⟨r184, hr184, hM⟩ := h_b hM
                    refine a_callS  (σ' := aGs 109 [] r184.2) (v := (some (.long r184.1))) (as := fun ad => [.int ((gI ι 22 y5.toNatClampNeg) >>> ((7 : Int32) &&& 31)), .long (gJ ι 23 ((y4 + (-1)) - (1 : Int32)).toNatClampNeg), .long (gJ ι 23 (y4 + (-1)).toNatClampNeg)]) (rest := [.int ((y4 + (-1)) - (1 : Int32)), .ref (ad 23)]) C hw (cs_X1_joined l hr184) k_X1_joined wM_X1_63 ⟨⟨rfl, rfl⟩, ⟨Nat.le_of_ble_eq_true rfl, Nat.le_of_ble_eq_true rfl⟩⟩ rfl hl rfl (Nat.le_of_ble_eq_true rfl) dX1_run_184 ⟨Nat.zero_le _, Nat.zero_le _⟩ (fun H locs hw => ?_)
                    obtain ⟨hi, hM⟩ := h_i hM
                    refine a_last (σ := aGs 109 [] r184.2) (o := 23) C hw rfl hi rfl dX1_run_187 (fun H locs hw => ?_)
                    have hw : aW D dA ad adV (aGs 109 [] (pJ r184.2 23 ((y4 + (-1)) - (1 : Int32)).toNatClampNeg r184.1)) A s H locs := hw
                    refine lv_iinc (v := (y5 + 1)) (lv' := [(5, .int (y5 + 1)), (4, .int (y4 + (-1))), (7, .int ((gI ι 22 y5.toNatClampNeg) &&& (127 : Int32))), (6, .int ((gI ι 22 y5.toNatClampNeg) >>> ((7 : Int32) &&& 31))), (0, .ref (ad 21)), (1, .ref (ad x1)), (2, .int y2), (3, .int y3)]) hx hb dX1_run_188 hl (k := 7) rfl rfl (by decide) rfl (fun ls hl => ?_)
                    refine lv_goto (tgt := 6) hx hb dX1_run_191 (by decide) ?_
                    exact ih (y2) (y3) ((y4 + (-1))) ((y5 + 1)) hM hw (lv_sub hl [4, 5, 6, 7, 1, 0] rfl)
              · replace hM := h_t hc hM
                refine lv_iload hx hb dX1_run_115 (lv_at hl 6 rfl) ?_
                refine lv_iconst (v := (1 : Int32)) hx hb dX1_run_117 (by decide) ?_
                refine lv_icmp_lt (tgt := 143) hx hb dX1_run_118 (by decide) (fun hc => ?_) (fun hc => ?_)
                · replace hM := h_t hc hM
                  refine lv_iload hx hb dX1_run_143 (lv_at hl 1 rfl) ?_
                  refine lv_iconst (v := (4 : Int32)) hx hb dX1_run_145 (by decide) ?_
                  refine lv_icmp_le (tgt := 188) hx hb dX1_run_146 (by decide) (fun hc => ?_) (fun hc => ?_)
                  · replace hM := h_t hc hM
                    refine lv_iinc (v := (y5 + 1)) (lv' := [(5, .int (y5 + 1)), (7, .int ((gI ι 22 y5.toNatClampNeg) &&& (127 : Int32))), (6, .int ((gI ι 22 y5.toNatClampNeg) >>> ((7 : Int32) &&& 31))), (0, .ref (ad 21)), (1, .ref (ad x1)), (2, .int y2), (3, .int y3), (4, .int y4)]) hx hb dX1_run_188 hl (k := 7) rfl rfl (by decide) rfl (fun ls hl => ?_)
                    refine lv_goto (tgt := 6) hx hb dX1_run_191 (by decide) ?_
                    exact ih (y2) (y3) (y4) ((y5 + 1)) hM hw (lv_sub hl [3, 4, 5, 6, 7, 0] rfl)
                  · replace hM := h_f hc hM
                    refine lv_iload hx hb dX1_run_149 (lv_at hl 6 rfl) ?_
                    refine lv_iconst (v := (2 : Int32)) hx hb dX1_run_151 (by decide) ?_
                    refine lv_icmp_lt (tgt := 188) hx hb dX1_run_152 (by decide) (fun hc => ?_) (fun hc => ?_)
                    · replace hM := h_t hc hM
                      refine lv_iinc (v := (y5 + 1)) (lv' := [(5, .int (y5 + 1)), (7, .int ((gI ι 22 y5.toNatClampNeg) &&& (127 : Int32))), (6, .int ((gI ι 22 y5.toNatClampNeg) >>> ((7 : Int32) &&& 31))), (0, .ref (ad 21)), (1, .ref (ad x1)), (2, .int y2), (3, .int y3), (4, .int y4)]) hx hb dX1_run_188 hl (k := 7) rfl rfl (by decide) rfl (fun ls hl => ?_)
                      refine lv_goto (tgt := 6) hx hb dX1_run_191 (by decide) ?_
                      exact ih (y2) (y3) (y4) ((y5 + 1)) hM hw (lv_sub hl [3, 4, 5, 6, 7, 0] rfl)
                    · replace hM := h_f hc hM
                      refine lv_iinc (v := (y4 + (-1))) (lv' := [(4, .int (y4 + (-1))), (7, .int ((gI ι 22 y5.toNatClampNeg) &&& (127 : Int32))), (6, .int ((gI ι 22 y5.toNatClampNeg) >>> ((7 : Int32) &&& 31))), (0, .ref (ad 21)), (1, .ref (ad x1)), (2, .int y2), (3, .int y3), (5, .int y5)]) hx hb dX1_run_155 hl (k := 6) rfl rfl (by decide) rfl (fun ls hl => ?_)
                      refine lv_aload_n hx hb dX1_run_158 rfl (lv_at hl 3 rfl) ?_
                      refine a_getp (q := 23) (σ := aGs 109 [] ι) (o := 21) (T := TX1) (N := 3) C wU_X1 hw rfl (by decide) rfl 1 (by decide) rfl wF_X1_15 (aGs_P rfl rfl) dX1_run_159 ?_
                      refine lv_iload hx hb dX1_run_162 (lv_at hl 0 rfl) ?_
                      refine lv_iconst (v := (1 : Int32)) hx hb dX1_run_164 (by decide) ?_
                      refine lv_isub hx hb dX1_run_165 ?_
                      refine lv_iload hx hb dX1_run_166 (lv_at hl 2 rfl) ?_
                      refine lv_aload_n hx hb dX1_run_168 rfl (lv_at hl 3 rfl) ?_
                      refine a_getp (q := 23) (σ := aGs 109 [] ι) (o := 21) (T := TX1) (N := 3) C wU_X1 hw rfl (by decide) rfl 1 (by decide) rfl wF_X1_15 (aGs_P rfl rfl) dX1_run_169 ?_
                      refine lv_iload hx hb dX1_run_172 (lv_at hl 0 rfl) ?_
                      refine lv_iconst (v := (1 : Int32)) hx hb dX1_run_174 (by decide) ?_
                      refine lv_isub hx hb dX1_run_175 ?_
                      obtain ⟨hi, hM⟩ := h_i hM
                      refine a_lald (σ := aGs 109 [] ι) (o := 23) C hw rfl hi rfl dX1_run_176 ?_
                      refine lv_aload_n hx hb dX1_run_177 rfl (lv_at hl 3 rfl) ?_
                      refine a_getp (q := 23) (σ := aGs 109 [] ι) (o := 21) (T := TX1) (N := 3) C wU_X1 hw rfl (by decide) rfl 1 (by decide) rfl wF_X1_15 (aGs_P rfl rfl) dX1_run_178 ?_
                      refine lv_iload hx hb dX1_run_181 (lv_at hl 0 rfl) ?_
                      obtain ⟨hi, hM⟩ := h_i hM
                      refine a_lald (σ := aGs 109 [] ι) (o := 23) C hw rfl hi rfl dX1_run_183 ?_
                      obtain ⟨r184, hr184, hM⟩ := h_b hM
                      refine a_callS  (σ' := aGs 109 [] r184.2) (v := (some (.long r184.1))) (as := fun ad => [.int ((gI ι 22 y5.toNatClampNeg) >>> ((7 : Int32) &&& 31)), .long (gJ ι 23 ((y4 + (-1)) - (1 : Int32)).toNatClampNeg), .long (gJ ι 23 (y4 + (-1)).toNatClampNeg)]) (rest := [.int ((y4 + (-1)) - (1 : Int32)), .ref (ad 23)]) C hw (cs_X1_joined l hr184) k_X1_joined wM_X1_63 ⟨⟨rfl, rfl⟩, ⟨Nat.le_of_ble_eq_true rfl, Nat.le_of_ble_eq_true rfl⟩⟩ rfl hl rfl (Nat.le_of_ble_eq_true rfl) dX1_run_184 ⟨Nat.zero_le _, Nat.zero_le _⟩ (fun H locs hw => ?_)
                      obtain ⟨hi, hM⟩ := h_i hM
                      refine a_last (σ := aGs 109 [] r184.2) (o := 23) C hw rfl hi rfl dX1_run_187 (fun H locs hw => ?_)
                      have hw : aW D dA ad adV (aGs 109 [] (pJ r184.2 23 ((y4 + (-1)) - (1 : Int32)).toNatClampNeg r184.1)) A s H locs := hw
                      refine lv_iinc (v := (y5 + 1)) (lv' := [(5, .int (y5 + 1)), (4, .int (y4 + (-1))), (7, .int ((gI ι 22 y5.toNatClampNeg) &&& (127 : Int32))), (6, .int ((gI ι 22 y5.toNatClampNeg) >>> ((7 : Int32) &&& 31))), (0, .ref (ad 21)), (1, .ref (ad x1)), (2, .int y2), (3, .int y3)]) hx hb dX1_run_188 hl (k := 7) rfl rfl (by decide) rfl (fun ls hl => ?_)
                      refine lv_goto (tgt := 6) hx hb dX1_run_191 (by decide) ?_
                      exact ih (y2) (y3) ((y4 + (-1))) ((y5 + 1)) hM hw (lv_sub hl [4, 5, 6, 7, 1, 0] rfl)
                · replace hM := h_f hc hM
                  refine lv_aload_n hx hb dX1_run_121 rfl (lv_at hl 2 rfl) ?_
                  refine a_getp (q := 23) (σ := aGs 109 [] ι) (o := 21) (T := TX1) (N := 3) C wU_X1 hw rfl (by decide) rfl 1 (by decide) rfl wF_X1_15 (aGs_P rfl rfl) dX1_run_122 ?_
                  refine lv_iload hx hb dX1_run_125 (lv_at hl 6 rfl) ?_
                  refine lv_iconst (v := (1 : Int32)) hx hb dX1_run_127 (by decide) ?_
                  refine lv_isub hx hb dX1_run_128 ?_
                  refine lv_aload_n hx hb dX1_run_129 rfl (lv_at hl 2 rfl) ?_
                  refine a_getp (q := 23) (σ := aGs 109 [] ι) (o := 21) (T := TX1) (N := 3) C wU_X1 hw rfl (by decide) rfl 1 (by decide) rfl wF_X1_15 (aGs_P rfl rfl) dX1_run_130 ?_
                  refine lv_iload hx hb dX1_run_133 (lv_at hl 6 rfl) ?_
                  refine lv_iconst (v := (1 : Int32)) hx hb dX1_run_135 (by decide) ?_
                  refine lv_isub hx hb dX1_run_136 ?_
                  obtain ⟨hi, hM⟩ := h_i hM
                  refine a_lald (σ := aGs 109 [] ι) (o := 23) C hw rfl hi rfl dX1_run_137 ?_
                  refine lv_lneg hx hb dX1_run_138 ?_
                  obtain ⟨hi, hM⟩ := h_i hM
                  refine a_last (σ := aGs 109 [] ι) (o := 23) C hw rfl hi rfl dX1_run_139 (fun H locs hw => ?_)
                  have hw : aW D dA ad adV (aGs 109 [] (pJ ι 23 (y4 - (1 : Int32)).toNatClampNeg (-(gJ ι 23 (y4 - (1 : Int32)).toNatClampNeg)))) A s H locs := hw
                  refine lv_goto (tgt := 188) hx hb dX1_run_140 (by decide) ?_
                  refine lv_iinc (v := (y5 + 1)) (lv' := [(5, .int (y5 + 1)), (7, .int ((gI ι 22 y5.toNatClampNeg) &&& (127 : Int32))), (6, .int ((gI ι 22 y5.toNatClampNeg) >>> ((7 : Int32) &&& 31))), (0, .ref (ad 21)), (1, .ref (ad x1)), (2, .int y2), (3, .int y3), (4, .int y4)]) hx hb dX1_run_188 hl (k := 7) rfl rfl (by decide) rfl (fun ls hl => ?_)
                  refine lv_goto (tgt := 6) hx hb dX1_run_191 (by decide) ?_
                  exact ih (y2) (y3) (y4) ((y5 + 1)) hM hw (lv_sub hl [3, 4, 5, 6, 7, 0] rfl)
            · replace hM := h_f hc hM
              refine lv_iload hx hb dX1_run_80 (lv_at hl 0 rfl) ?_
              refine lv_iconst (v := (5 : Int32)) hx hb dX1_run_82 (by decide) ?_
              refine lv_icmp_ge (tgt := 109) hx hb dX1_run_83 (by decide) (fun hc => ?_) (fun hc => ?_)
              · replace hM := h_t hc hM
                refine lv_iload hx hb dX1_run_109 (lv_at hl 1 rfl) ?_
                refine lv_iconst (v := (4 : Int32)) hx hb dX1_run_111 (by decide) ?_
                refine lv_icmp_ne (tgt := 143) hx hb dX1_run_112 (by decide) (fun hc => ?_) (fun hc => ?_)
                · replace hM := h_f hc hM
                  refine lv_iload hx hb dX1_run_143 (lv_at hl 1 rfl) ?_
                  refine lv_iconst (v := (4 : Int32)) hx hb dX1_run_145 (by decide) ?_
                  refine lv_icmp_le (tgt := 188) hx hb dX1_run_146 (by decide) (fun hc => ?_) (fun hc => ?_)
                  · replace hM := h_t hc hM
                    refine lv_iinc (v := (y5 + 1)) (lv' := [(5, .int (y5 + 1)), (7, .int ((gI ι 22 y5.toNatClampNeg) &&& (127 : Int32))), (6, .int ((gI ι 22 y5.toNatClampNeg) >>> ((7 : Int32) &&& 31))), (0, .ref (ad 21)), (1, .ref (ad x1)), (2, .int y2), (3, .int y3), (4, .int y4)]) hx hb dX1_run_188 hl (k := 7) rfl rfl (by decide) rfl (fun ls hl => ?_)
                    refine lv_goto (tgt := 6) hx hb dX1_run_191 (by decide) ?_
                    exact ih (y2) (y3) (y4) ((y5 + 1)) hM hw (lv_sub hl [3, 4, 5, 6, 7, 0] rfl)
                  · replace hM := h_f hc hM
                    refine lv_iload hx hb dX1_run_149 (lv_at hl 6 rfl) ?_
                    refine lv_iconst (v := (2 : Int32)) hx hb dX1_run_151 (by decide) ?_
                    refine lv_icmp_lt (tgt := 188) hx hb dX1_run_152 (by decide) (fun hc => ?_) (fun hc => ?_)
                    · replace hM := h_t hc hM
                      refine lv_iinc (v := (y5 + 1)) (lv' := [(5, .int (y5 + 1)), (7, .int ((gI ι 22 y5.toNatClampNeg) &&& (127 : Int32))), (6, .int ((gI ι 22 y5.toNatClampNeg) >>> ((7 : Int32) &&& 31))), (0, .ref (ad 21)), (1, .ref (ad x1)), (2, .int y2), (3, .int y3), (4, .int y4)]) hx hb dX1_run_188 hl (k := 7) rfl rfl (by decide) rfl (fun ls hl => ?_)
                      refine lv_goto (tgt := 6) hx hb dX1_run_191 (by decide) ?_
                      exact ih (y2) (y3) (y4) ((y5 + 1)) hM hw (lv_sub hl [3, 4, 5, 6, 7, 0] rfl)
                    · replace hM := h_f hc hM
                      refine lv_iinc (v := (y4 + (-1))) (lv' := [(4, .int (y4 + (-1))), (7, .int ((gI ι 22 y5.toNatClampNeg) &&& (127 : Int32))), (6, .int ((gI ι 22 y5.toNatClampNeg) >>> ((7 : Int32) &&& 31))), (0, .ref (ad 21)), (1, .ref (ad x1)), (2, .int y2), (3, .int y3), (5, .int y5)]) hx hb dX1_run_155 hl (k := 6) rfl rfl (by decide) rfl (fun ls hl => ?_)
                      refine lv_aload_n hx hb dX1_run_158 rfl (lv_at hl 3 rfl) ?_
                      refine a_getp (q := 23) (σ := aGs 109 [] ι) (o := 21) (T := TX1) (N := 3) C wU_X1 hw rfl (by decide) rfl 1 (by decide) rfl wF_X1_15 (aGs_P rfl rfl) dX1_run_159 ?_
                      refine lv_iload hx hb dX1_run_162 (lv_at hl 0 rfl) ?_
                      refine lv_iconst (v := (1 : Int32)) hx hb dX1_run_164 (by decide) ?_
                      refine lv_isub hx hb dX1_run_165 ?_
                      refine lv_iload hx hb dX1_run_166 (lv_at hl 2 rfl) ?_
                      refine lv_aload_n hx hb dX1_run_168 rfl (lv_at hl 3 rfl) ?_
                      refine a_getp (q := 23) (σ := aGs 109 [] ι) (o := 21) (T := TX1) (N := 3) C wU_X1 hw rfl (by decide) rfl 1 (by decide) rfl wF_X1_15 (aGs_P rfl rfl) dX1_run_169 ?_
                      refine lv_iload hx hb dX1_run_172 (lv_at hl 0 rfl) ?_
                      refine lv_iconst (v := (1 : Int32)) hx hb dX1_run_174 (by decide) ?_
                      refine lv_isub hx hb dX1_run_175 ?_
                      obtain ⟨hi, hM⟩ := h_i hM
                      refine a_lald (σ := aGs 109 [] ι) (o := 23) C hw rfl hi rfl dX1_run_176 ?_
                      refine lv_aload_n hx hb dX1_run_177 rfl (lv_at hl 3 rfl) ?_
                      refine a_getp (q := 23) (σ := aGs 109 [] ι) (o := 21) (T := TX1) (N := 3) C wU_X1 hw rfl (by decide) rfl 1 (by decide) rfl wF_X1_15 (aGs_P rfl rfl) dX1_run_178 ?_
                      refine lv_iload hx hb dX1_run_181 (lv_at hl 0 rfl) ?_
                      obtain ⟨hi, hM⟩ := h_i hM
                      refine a_lald (σ := aGs 109 [] ι) (o := 23) C hw rfl hi rfl dX1_run_183 ?_
                      obtain ⟨r184, hr184, hM⟩ := h_b hM
                      refine a_callS  (σ' := aGs 109 [] r184.2) (v := (some (.long r184.1))) (as := fun ad => [.int ((gI ι 22 y5.toNatClampNeg) >>> ((7 : Int32) &&& 31)), .long (gJ ι 23 ((y4 + (-1)) - (1 : Int32)).toNatClampNeg), .long (gJ ι 23 (y4 + (-1)).toNatClampNeg)]) (rest := [.int ((y4 + (-1)) - (1 : Int32)), .ref (ad 23)]) C hw (cs_X1_joined l hr184) k_X1_joined wM_X1_63 ⟨⟨rfl, rfl⟩, ⟨Nat.le_of_ble_eq_true rfl, Nat.le_of_ble_eq_true rfl⟩⟩ rfl hl rfl (Nat.le_of_ble_eq_true rfl) dX1_run_184 ⟨Nat.zero_le _, Nat.zero_le _⟩ (fun H locs hw => ?_)
                      obtain ⟨hi, hM⟩ := h_i hM
                      refine a_last (σ := aGs 109 [] r184.2) (o := 23) C hw rfl hi rfl dX1_run_187 (fun H locs hw => ?_)
                      have hw : aW D dA ad adV (aGs 109 [] (pJ r184.2 23 ((y4 + (-1)) - (1 : Int32)).toNatClampNeg r184.1)) A s H locs := hw
                      refine lv_iinc (v := (y5 + 1)) (lv' := [(5, .int (y5 + 1)), (4, .int (y4 + (-1))), (7, .int ((gI ι 22 y5.toNatClampNeg) &&& (127 : Int32))), (6, .int ((gI ι 22 y5.toNatClampNeg) >>> ((7 : Int32) &&& 31))), (0, .ref (ad 21)), (1, .ref (ad x1)), (2, .int y2), (3, .int y3)]) hx hb dX1_run_188 hl (k := 7) rfl rfl (by decide) rfl (fun ls hl => ?_)
                      refine lv_goto (tgt := 6) hx hb dX1_run_191 (by decide) ?_
                      exact ih (y2) (y3) ((y4 + (-1))) ((y5 + 1)) hM hw (lv_sub hl [4, 5, 6, 7, 1, 0] rfl)
                · replace hM := h_t hc hM
                  refine lv_iload hx hb dX1_run_115 (lv_at hl 6 rfl) ?_
                  refine lv_iconst (v := (1 : Int32)) hx hb dX1_run_117 (by decide) ?_
                  refine lv_icmp_lt (tgt := 143) hx hb dX1_run_118 (by decide) (fun hc => ?_) (fun hc => ?_)
                  · replace hM := h_t hc hM
                    refine lv_iload hx hb dX1_run_143 (lv_at hl 1 rfl) ?_
                    refine lv_iconst (v := (4 : Int32)) hx hb dX1_run_145 (by decide) ?_
                    refine lv_icmp_le (tgt := 188) hx hb dX1_run_146 (by decide) (fun hc => ?_) (fun hc => ?_)
                    · replace hM := h_t hc hM
                      refine lv_iinc (v := (y5 + 1)) (lv' := [(5, .int (y5 + 1)), (7, .int ((gI ι 22 y5.toNatClampNeg) &&& (127 : Int32))), (6, .int ((gI ι 22 y5.toNatClampNeg) >>> ((7 : Int32) &&& 31))), (0, .ref (ad 21)), (1, .ref (ad x1)), (2, .int y2), (3, .int y3), (4, .int y4)]) hx hb dX1_run_188 hl (k := 7) rfl rfl (by decide) rfl (fun ls hl => ?_)
                      refine lv_goto (tgt := 6) hx hb dX1_run_191 (by decide) ?_
                      exact ih (y2) (y3) (y4) ((y5 + 1)) hM hw (lv_sub hl [3, 4, 5, 6, 7, 0] rfl)
                    · replace hM := h_f hc hM
                      refine lv_iload hx hb dX1_run_149 (lv_at hl 6 rfl) ?_
                      refine lv_iconst (v := (2 : Int32)) hx hb dX1_run_151 (by decide) ?_
                      refine lv_icmp_lt (tgt := 188) hx hb dX1_run_152 (by decide) (fun hc => ?_) (fun hc => ?_)
                      · replace hM := h_t hc hM
                        refine lv_iinc (v := (y5 + 1)) (lv' := [(5, .int (y5 + 1)), (7, .int ((gI ι 22 y5.toNatClampNeg) &&& (127 : Int32))), (6, .int ((gI ι 22 y5.toNatClampNeg) >>> ((7 : Int32) &&& 31))), (0, .ref (ad 21)), (1, .ref (ad x1)), (2, .int y2), (3, .int y3), (4, .int y4)]) hx hb dX1_run_188 hl (k := 7) rfl rfl (by decide) rfl (fun ls hl => ?_)
                        refine lv_goto (tgt := 6) hx hb dX1_run_191 (by decide) ?_
                        exact ih (y2) (y3) (y4) ((y5 + 1)) hM hw (lv_sub hl [3, 4, 5, 6, 7, 0] rfl)
                      · replace hM := h_f hc hM
                        refine lv_iinc (v := (y4 + (-1))) (lv' := [(4, .int (y4 + (-1))), (7, .int ((gI ι 22 y5.toNatClampNeg) &&& (127 : Int32))), (6, .int ((gI ι 22 y5.toNatClampNeg) >>> ((7 : Int32) &&& 31))), (0, .ref (ad 21)), (1, .ref (ad x1)), (2, .int y2), (3, .int y3), (5, .int y5)]) hx hb dX1_run_155 hl (k := 6) rfl rfl (by decide) rfl (fun ls hl => ?_)
                        refine lv_aload_n hx hb dX1_run_158 rfl (lv_at hl 3 rfl) ?_
                        refine a_getp (q := 23) (σ := aGs 109 [] ι) (o := 21) (T := TX1) (N := 3) C wU_X1 hw rfl (by decide) rfl 1 (by decide) rfl wF_X1_15 (aGs_P rfl rfl) dX1_run_159 ?_
                        refine lv_iload hx hb dX1_run_162 (lv_at hl 0 rfl) ?_
                        refine lv_iconst (v := (1 : Int32)) hx hb dX1_run_164 (by decide) ?_
                        refine lv_isub hx hb dX1_run_165 ?_
                        refine lv_iload hx hb dX1_run_166 (lv_at hl 2 rfl) ?_
                        refine lv_aload_n hx hb dX1_run_168 rfl (lv_at hl 3 rfl) ?_
                        refine a_getp (q := 23) (σ := aGs 109 [] ι) (o := 21) (T := TX1) (N := 3) C wU_X1 hw rfl (by decide) rfl 1 (by decide) rfl wF_X1_15 (aGs_P rfl rfl) dX1_run_169 ?_
                        refine lv_iload hx hb dX1_run_172 (lv_at hl 0 rfl) ?_
                        refine lv_iconst (v := (1 : Int32)) hx hb dX1_run_174 (by decide) ?_
                        refine lv_isub hx hb dX1_run_175 ?_
                        obtain ⟨hi, hM⟩ := h_i hM
                        refine a_lald (σ := aGs 109 [] ι) (o := 23) C hw rfl hi rfl dX1_run_176 ?_
                        refine lv_aload_n hx hb dX1_run_177 rfl (lv_at hl 3 rfl) ?_
                        refine a_getp (q := 23) (σ := aGs 109 [] ι) (o := 21) (T := TX1) (N := 3) C wU_X1 hw rfl (by decide) rfl 1 (by decide) rfl wF_X1_15 (aGs_P rfl rfl) dX1_run_178 ?_
                        refine lv_iload hx hb dX1_run_181 (lv_at hl 0 rfl) ?_
                        obtain ⟨hi, hM⟩ := h_i hM
                        refine a_lald (σ := aGs 109 [] ι) (o := 23) C hw rfl hi rfl dX1_run_183 ?_
                        obtain ⟨r184, hr184, hM⟩ := h_b hM
                        refine a_callS  (σ' := aGs 109 [] r184.2) (v := (some (.long r184.1))) (as := fun ad => [.int ((gI ι 22 y5.toNatClampNeg) >>> ((7 : Int32) &&& 31)), .long (gJ ι 23 ((y4 + (-1)) - (1 : Int32)).toNatClampNeg), .long (gJ ι 23 (y4 + (-1)).toNatClampNeg)]) (rest := [.int ((y4 + (-1)) - (1 : Int32)), .ref (ad 23)]) C hw (cs_X1_joined l hr184) k_X1_joined wM_X1_63 ⟨⟨rfl, rfl⟩, ⟨Nat.le_of_ble_eq_true rfl, Nat.le_of_ble_eq_true rfl⟩⟩ rfl hl rfl (Nat.le_of_ble_eq_true rfl) dX1_run_184 ⟨Nat.zero_le _, Nat.zero_le _⟩ (fun H locs hw => ?_)
                        obtain ⟨hi, hM⟩ := h_i hM
                        refine a_last (σ := aGs 109 [] r184.2) (o := 23) C hw rfl hi rfl dX1_run_187 (fun H locs hw => ?_)
                        have hw : aW D dA ad adV (aGs 109 [] (pJ r184.2 23 ((y4 + (-1)) - (1 : Int32)).toNatClampNeg r184.1)) A s H locs := hw
                        refine lv_iinc (v := (y5 + 1)) (lv' := [(5, .int (y5 + 1)), (4, .int (y4 + (-1))), (7, .int ((gI ι 22 y5.toNatClampNeg) &&& (127 : Int32))), (6, .int ((gI ι 22 y5.toNatClampNeg) >>> ((7 : Int32) &&& 31))), (0, .ref (ad 21)), (1, .ref (ad x1)), (2, .int y2), (3, .int y3)]) hx hb dX1_run_188 hl (k := 7) rfl rfl (by decide) rfl (fun ls hl => ?_)
                        refine lv_goto (tgt := 6) hx hb dX1_run_191 (by decide) ?_
                        exact ih (y2) (y3) ((y4 + (-1))) ((y5 + 1)) hM hw (lv_sub hl [4, 5, 6, 7, 1, 0] rfl)
                  · replace hM := h_f hc hM
                    refine lv_aload_n hx hb dX1_run_121 rfl (lv_at hl 2 rfl) ?_
                    refine a_getp (q := 23) (σ := aGs 109 [] ι) (o := 21) (T := TX1) (N := 3) C wU_X1 hw rfl (by decide) rfl 1 (by decide) rfl wF_X1_15 (aGs_P rfl rfl) dX1_run_122 ?_
                    refine lv_iload hx hb dX1_run_125 (lv_at hl 6 rfl) ?_
                    refine lv_iconst (v := (1 : Int32)) hx hb dX1_run_127 (by decide) ?_
                    refine lv_isub hx hb dX1_run_128 ?_
                    refine lv_aload_n hx hb dX1_run_129 rfl (lv_at hl 2 rfl) ?_
                    refine a_getp (q := 23) (σ := aGs 109 [] ι) (o := 21) (T := TX1) (N := 3) C wU_X1 hw rfl (by decide) rfl 1 (by decide) rfl wF_X1_15 (aGs_P rfl rfl) dX1_run_130 ?_
                    refine lv_iload hx hb dX1_run_133 (lv_at hl 6 rfl) ?_
                    refine lv_iconst (v := (1 : Int32)) hx hb dX1_run_135 (by decide) ?_
                    refine lv_isub hx hb dX1_run_136 ?_
                    obtain ⟨hi, hM⟩ := h_i hM
                    refine a_lald (σ := aGs 109 [] ι) (o := 23) C hw rfl hi rfl dX1_run_137 ?_
                    refine lv_lneg hx hb dX1_run_138 ?_
                    obtain ⟨hi, hM⟩ := h_i hM
                    refine a_last (σ := aGs 109 [] ι) (o := 23) C hw rfl hi rfl dX1_run_139 (fun H locs hw => ?_)
                    have hw : aW D dA ad adV (aGs 109 [] (pJ ι 23 (y4 - (1 : Int32)).toNatClampNeg (-(gJ ι 23 (y4 - (1 : Int32)).toNatClampNeg)))) A s H locs := hw
                    refine lv_goto (tgt := 188) hx hb dX1_run_140 (by decide) ?_
                    refine lv_iinc (v := (y5 + 1)) (lv' := [(5, .int (y5 + 1)), (7, .int ((gI ι 22 y5.toNatClampNeg) &&& (127 : Int32))), (6, .int ((gI ι 22 y5.toNatClampNeg) >>> ((7 : Int32) &&& 31))), (0, .ref (ad 21)), (1, .ref (ad x1)), (2, .int y2), (3, .int y3), (4, .int y4)]) hx hb dX1_run_188 hl (k := 7) rfl rfl (by decide) rfl (fun ls hl => ?_)
                    refine lv_goto (tgt := 6) hx hb dX1_run_191 (by decide) ?_
                    exact ih (y2) (y3) (y4) ((y5 + 1)) hM hw (lv_sub hl [3, 4, 5, 6, 7, 0] rfl)
              · replace hM := h_f hc hM
                refine lv_aload_n hx hb dX1_run_86 rfl (lv_at hl 2 rfl) ?_
                refine a_getp (q := 23) (σ := aGs 109 [] ι) (o := 21) (T := TX1) (N := 3) C wU_X1 hw rfl (by decide) rfl 1 (by decide) rfl wF_X1_15 (aGs_P rfl rfl) dX1_run_87 ?_
                refine lv_iload hx hb dX1_run_90 (lv_at hl 6 rfl) ?_
                refine lv_iload hx hb dX1_run_92 (lv_at hl 1 rfl) ?_
                refine lv_iload hx hb dX1_run_94 (lv_at hl 0 rfl) ?_
                refine lv_aload_n hx hb dX1_run_96 rfl (lv_at hl 3 rfl) ?_
                refine lv_iload_n hx hb dX1_run_97 rfl (lv_at hl 4 rfl) ?_
                refine lv_iload_n hx hb dX1_run_98 rfl (lv_at hl 5 rfl) ?_
                obtain ⟨r99, hr99, hM⟩ := h_b hM
                refine a_callS  (σ' := aGs 109 [] r99.2) (v := (some (.long r99.1))) (as := fun ad => [.int ((gI ι 22 y5.toNatClampNeg) >>> ((7 : Int32) &&& 31)), .int ((gI ι 22 y5.toNatClampNeg) &&& (127 : Int32)), .ref (ad x1), .int y2, .int y3]) (rest := [.int y4, .ref (ad 23)]) C hw (cs_X1_ofTrait l (hx1) hr99) k_X1_ofTrait wM_X1_59 ⟨⟨rfl, rfl⟩, ⟨Nat.le_of_ble_eq_true rfl, Nat.le_of_ble_eq_true rfl⟩⟩ rfl hl rfl (Nat.le_of_ble_eq_true rfl) dX1_run_99 ⟨Nat.zero_le _, Nat.zero_le _⟩ (fun H locs hw => ?_)
                obtain ⟨hi, hM⟩ := h_i hM
                refine a_last (σ := aGs 109 [] r99.2) (o := 23) C hw rfl hi rfl dX1_run_102 (fun H locs hw => ?_)
                have hw : aW D dA ad adV (aGs 109 [] (pJ r99.2 23 y4.toNatClampNeg r99.1)) A s H locs := hw
                refine lv_iinc (v := (y4 + 1)) (lv' := [(4, .int (y4 + 1)), (7, .int ((gI ι 22 y5.toNatClampNeg) &&& (127 : Int32))), (6, .int ((gI ι 22 y5.toNatClampNeg) >>> ((7 : Int32) &&& 31))), (0, .ref (ad 21)), (1, .ref (ad x1)), (2, .int y2), (3, .int y3), (5, .int y5)]) hx hb dX1_run_103 hl (k := 6) rfl rfl (by decide) rfl (fun ls hl => ?_)
                refine lv_goto (tgt := 188) hx hb dX1_run_106 (by decide) ?_
                refine lv_iinc (v := (y5 + 1)) (lv' := [(5, .int (y5 + 1)), (4, .int (y4 + 1)), (7, .int ((gI ι 22 y5.toNatClampNeg) &&& (127 : Int32))), (6, .int ((gI ι 22 y5.toNatClampNeg) >>> ((7 : Int32) &&& 31))), (0, .ref (ad 21)), (1, .ref (ad x1)), (2, .int y2), (3, .int y3)]) hx hb dX1_run_188 hl (k := 7) rfl rfl (by decide) rfl (fun ls hl => ?_)
                refine lv_goto (tgt := 6) hx hb dX1_run_191 (by decide) ?_
                exact ih (y2) (y3) ((y4 + 1)) ((y5 + 1)) hM hw (lv_sub hl [4, 5, 6, 7, 1, 0] rfl)
        · replace hM := h_f hc hM
          refine lv_aload_n hx hb dX1_run_51 rfl (lv_at hl 2 rfl) ?_
          refine a_getp (q := 23) (σ := aGs 109 [] ι) (o := 21) (T := TX1) (N := 3) C wU_X1 hw rfl (by decide) rfl 1 (by decide) rfl wF_X1_15 (aGs_P rfl rfl) dX1_run_52 ?_
          refine lv_iload hx hb dX1_run_55 (lv_at hl 6 rfl) ?_
          refine lv_iload hx hb dX1_run_57 (lv_at hl 0 rfl) ?_
          refine lv_i2l hx hb dX1_run_59 rfl ?_
          obtain ⟨hi, hM⟩ := h_i hM
          refine a_last (σ := aGs 109 [] ι) (o := 23) C hw rfl hi rfl dX1_run_60 (fun H locs hw => ?_)
          have hw : aW D dA ad adV (aGs 109 [] (pJ ι 23 y4.toNatClampNeg (((gI ι 22 y5.toNatClampNeg) &&& (127 : Int32))).toInt64)) A s H locs := hw
          refine lv_iinc (v := (y4 + 1)) (lv' := [(4, .int (y4 + 1)), (7, .int ((gI ι 22 y5.toNatClampNeg) &&& (127 : Int32))), (6, .int ((gI ι 22 y5.toNatClampNeg) >>> ((7 : Int32) &&& 31))), (0, .ref (ad 21)), (1, .ref (ad x1)), (2, .int y2), (3, .int y3), (5, .int y5)]) hx hb dX1_run_61 hl (k := 6) rfl rfl (by decide) rfl (fun ls hl => ?_)
          refine lv_goto (tgt := 188) hx hb dX1_run_64 (by decide) ?_
          refine lv_iinc (v := (y5 + 1)) (lv' := [(5, .int (y5 + 1)), (4, .int (y4 + 1)), (7, .int ((gI ι 22 y5.toNatClampNeg) &&& (127 : Int32))), (6, .int ((gI ι 22 y5.toNatClampNeg) >>> ((7 : Int32) &&& 31))), (0, .ref (ad 21)), (1, .ref (ad x1)), (2, .int y2), (3, .int y3)]) hx hb dX1_run_188 hl (k := 7) rfl rfl (by decide) rfl (fun ls hl => ?_)
          refine lv_goto (tgt := 6) hx hb dX1_run_191 (by decide) ?_
          exact ih (y2) (y3) ((y4 + 1)) ((y5 + 1)) hM hw (lv_sub hl [4, 5, 6, 7, 1, 0] rfl)
set_option maxHeartbeats 4000000 in
set_option maxRecDepth 100000 in
theorem cs_X1_run (l : Launch) {x1 : Nat} {x2 : Int32} {x3 : Int32} (hx1 : aLinS 109 [] x1) {ι : iS} {res : Int64 × iS} (hM : m_X1_run x1 x2 x3 ι = some res) : aM l yX1_run cX1_run 8 (some .long) rm_X1_run (fun ad => [.ref (ad 21), .ref (ad x1), .int x2, .int x3]) (aGs 109 [] ι) (some (.long res.1)) (aGs 109 [] res.2) := by
  refine aM.of (by decide) (fun _ => Nat.le_of_ble_eq_true rfl) ?_
  intro p e s m args below meth c D dA ad adV A ls C hw hl
  have C : aX p m c cX1_run 8 s args aTs RX1 meth (some .long) := C
  have hx := C.1.1
  have hb := C.1.2.1
  have hml := C.1.2.2.1
  have hown := C.1.2.2.2.1
  have hts := C.1.2.2.2.2
  have hl : lv_has ls 8 [(0, .ref (ad 21)), (1, .ref (ad x1)), (2, .int x2), (3, .int x3)] := hl
  unfold m_X1_run at hM
  refine lv_iconst (v := (0 : Int32)) hx hb dX1_run_0 (by decide) ?_
  refine lv_istore (lv' := [(4, .int (0 : Int32)), (0, .ref (ad 21)), (1, .ref (ad x1)), (2, .int x2), (3, .int x3)]) hx hb dX1_run_1 hl (by decide) rfl (fun ls hl => ?_)
  refine lv_iconst (v := (0 : Int32)) hx hb dX1_run_3 (by decide) ?_
  refine lv_istore (lv' := [(5, .int (0 : Int32)), (4, .int (0 : Int32)), (0, .ref (ad 21)), (1, .ref (ad x1)), (2, .int x2), (3, .int x3)]) hx hb dX1_run_4 hl (by decide) rfl (fun ls hl => ?_)
  exact us_X1_run_6 l C hx1 aF (x2) (x3) ((0 : Int32)) ((0 : Int32)) hM hw (lv_sub hl [2, 3, 4, 5, 1, 0] rfl)
set_option maxHeartbeats 4000000 in
set_option maxRecDepth 100000 in
theorem cs_X1_rateOne (l : Launch) {x1 : Nat} {x2 : Int32} {x3 : Int32} (hx1 : aLinS 109 [] x1) {ι : iS} {res : Int32 × iS} (hM : m_X1_rateOne x1 x2 x3 ι = some res) : aM l yX1_rateOne cX1_rateOne 5 (some .int) rm_X1_rateOne (fun ad => [.ref (ad 21), .ref (ad x1), .int x2, .int x3]) (aGs 109 [] ι) (some (.int res.1)) (aGs 109 [] res.2) := by
  refine aM.of (by decide) (fun _ => Nat.le_of_ble_eq_true rfl) ?_
  intro p e s m args below meth c D dA ad adV A ls C hw hl
  have C : aX p m c cX1_rateOne 5 s args aTs RX1 meth (some .int) := C
  have hx := C.1.1
  have hb := C.1.2.1
  have hml := C.1.2.2.1
  have hown := C.1.2.2.2.1
  have hts := C.1.2.2.2.2
  have hl : lv_has ls 5 [(0, .ref (ad 21)), (1, .ref (ad x1)), (2, .int x2), (3, .int x3)] := hl
  unfold m_X1_rateOne at hM
  refine lv_aload_n hx hb dX1_rateOne_0 rfl (lv_at hl 0 rfl) ?_
  refine a_geti (σ := aGs 109 [] ι) (o := 21) (T := TX1) (N := 3) C wU_X1 hw rfl (by decide) rfl 2 (by decide) rfl wF_X1_19 dX1_rateOne_1 ?_
  refine lv_if_ne (tgt := 16) hx hb dX1_rateOne_4 (by decide) (fun hc => ?_) (fun hc => ?_)
  · replace hM := h_f hc hM
    refine lv_aload_n hx hb dX1_rateOne_16 rfl (lv_at hl 0 rfl) ?_
    refine lv_aload_n hx hb dX1_rateOne_17 rfl (lv_at hl 1 rfl) ?_
    refine lv_iload_n hx hb dX1_rateOne_18 rfl (lv_at hl 2 rfl) ?_
    refine lv_iload_n hx hb dX1_rateOne_19 rfl (lv_at hl 3 rfl) ?_
    obtain ⟨r20, hr20, hM⟩ := h_b hM
    refine a_callV (σ' := aGs 109 [] r20.2) (v := (some (.long r20.1))) (As := fun ad => [.ref (ad x1), .int x2, .int x3]) (rest := []) (o := 21) C hw (cs_X1_run l (hx1) hr20) k_X1_run wM_X1_41 ⟨⟨rfl, rfl⟩, ⟨Nat.le_of_ble_eq_true rfl, Nat.le_of_ble_eq_true rfl⟩⟩ rfl (by decide) rfl rfl rfl hl rfl (Nat.le_of_ble_eq_true rfl) dX1_rateOne_20 ⟨Nat.zero_le _, Nat.zero_le _⟩ (fun H locs hw => ?_)
    refine lv_l2i hx hb dX1_rateOne_23 rfl ?_
    refine lv_istore (lv' := [(4, .int (r20.1).toInt32), (0, .ref (ad 21)), (1, .ref (ad x1)), (2, .int x2), (3, .int x3)]) hx hb dX1_rateOne_24 hl (by decide) rfl (fun ls hl => ?_)
    refine lv_iload hx hb dX1_rateOne_26 (lv_at hl 0 rfl) ?_
    refine lv_iconst (v := (0 : Int32)) hx hb dX1_rateOne_28 (by decide) ?_
    refine lv_bipush (v := (99 : Int32)) hx hb dX1_rateOne_29 (by decide) ?_
    obtain ⟨r31, hr31, hM⟩ := h_b hM
    refine a_callSN (host := "LineupDesk") (σ' := aGs 109 [] r31.2) (v := (some (.int r31.1))) (as := fun ad => [.int (r20.1).toInt32, .int (0 : Int32), .int (99 : Int32)]) (rest := []) C hw (cs_X6_held l hr31) k_X6_held (by decide) ⟨⟨rfl, rfl⟩, ⟨Nat.le_of_ble_eq_true rfl, Nat.le_of_ble_eq_true rfl⟩⟩ rfl hl rfl (Nat.le_of_ble_eq_true rfl) dX1_rateOne_31 ⟨Nat.zero_le _, Nat.zero_le _⟩ (fun H locs hw => ?_)
    cases h_e hM
    exact a_iret C hw dX1_rateOne_34
  · replace hM := h_t hc hM
    refine lv_aload_n hx hb dX1_rateOne_7 rfl (lv_at hl 1 rfl) ?_
    refine lv_iload_n hx hb dX1_rateOne_8 rfl (lv_at hl 2 rfl) ?_
    refine lv_iload_n hx hb dX1_rateOne_9 rfl (lv_at hl 3 rfl) ?_
    obtain ⟨r10, hr10, hM⟩ := h_b hM
    refine a_callS  (σ' := aGs 109 [] r10.2) (v := (some (.int r10.1))) (as := fun ad => [.ref (ad x1), .int x2, .int x3]) (rest := []) C hw (cs_X1_plainRate l (hx1) hr10) k_X1_plainRate wM_X1_38 ⟨⟨rfl, rfl⟩, ⟨Nat.le_of_ble_eq_true rfl, Nat.le_of_ble_eq_true rfl⟩⟩ rfl hl rfl (Nat.le_of_ble_eq_true rfl) dX1_rateOne_10 ⟨Nat.zero_le _, Nat.zero_le _⟩ (fun H locs hw => ?_)
    refine lv_goto (tgt := 24) hx hb dX1_rateOne_13 (by decide) ?_
    refine lv_istore (lv' := [(4, .int r10.1), (0, .ref (ad 21)), (1, .ref (ad x1)), (2, .int x2), (3, .int x3)]) hx hb dX1_rateOne_24 hl (by decide) rfl (fun ls hl => ?_)
    refine lv_iload hx hb dX1_rateOne_26 (lv_at hl 0 rfl) ?_
    refine lv_iconst (v := (0 : Int32)) hx hb dX1_rateOne_28 (by decide) ?_
    refine lv_bipush (v := (99 : Int32)) hx hb dX1_rateOne_29 (by decide) ?_
    obtain ⟨r31, hr31, hM⟩ := h_b hM
    refine a_callSN (host := "LineupDesk") (σ' := aGs 109 [] r31.2) (v := (some (.int r31.1))) (as := fun ad => [.int r10.1, .int (0 : Int32), .int (99 : Int32)]) (rest := []) C hw (cs_X6_held l hr31) k_X6_held (by decide) ⟨⟨rfl, rfl⟩, ⟨Nat.le_of_ble_eq_true rfl, Nat.le_of_ble_eq_true rfl⟩⟩ rfl hl rfl (Nat.le_of_ble_eq_true rfl) dX1_rateOne_31 ⟨Nat.zero_le _, Nat.zero_le _⟩ (fun H locs hw => ?_)
    cases h_e hM
    exact a_iret C hw dX1_rateOne_34
set_option maxHeartbeats 4000000 in
set_option maxRecDepth 100000 in
theorem us_X1_rate_2 (l : Launch) {p : Program} {e : Env} {s : State} {m : MethodId} {args : Array Value} {below : List Frame} {meth : Method} {c : Code} {D : va_G} {dA : Nat → ClassId} {ad adV : Nat → Nat} {A : Nat → Prop} (C : aX p m c cX1_rate 3 s args aTs RX1 meth none) {x1 : Nat} (hx1 : aLinS 109 [] x1) {res : iS} : ∀ (n : Nat) (y2 : Int32) {ι : iS}, l_X1_rate_2 x1 n y2 ι = some res → ∀ {H : Heap} {locs : List Loc} {ls : Array Slot}, aW D dA ad adV (aGs 109 [] ι) A s H locs → lv_has ls 3 [(0, .ref (ad 21)), (1, .ref (ad x1)), (2, .int y2)] → W p l e rm_X1_rate s m args below meth c H locs 0 0 (MQ below (aQ D dA ad (aGs 109 [] res) A none) args s 0 0 A) (F0 m 2 ls []) := by
  have hx := C.1.1
  have hb := C.1.2.1
  have hml := C.1.2.2.1
  have hown := C.1.2.2.2.1
  have hts := C.1.2.2.2.2
  intro n
  induction n with
  | zero => intro y2 ι hM; simp [l_X1_rate_2] at hM
  | succ n ih =>
    intro y2 ι hM H locs ls hw hl
    rw [l_X1_rate_2] at hM
    refine lv_iload_n hx hb dX1_rate_2 rfl (lv_at hl 2 rfl) ?_
    refine lv_aload_n hx hb dX1_rate_3 rfl (lv_at hl 1 rfl) ?_
    refine a_geti (σ := aGs 109 [] ι) (o := x1) (T := TX2) (N := 11) C wU_X2 hw (aLinS_k hx1).1 (by decide) rfl 1 (by decide) rfl wF_X1_23 dX1_rate_4 ?_
    refine lv_icmp_ge (tgt := 42) hx hb dX1_rate_7 (by decide) (fun hc => ?_) (fun hc => ?_)
    · replace hM := h_t hc hM
      cases h_e hM
      exact a_vret C hw dX1_rate_42
    · replace hM := h_f hc hM
      refine lv_aload_n hx hb dX1_rate_10 rfl (lv_at hl 1 rfl) ?_
      refine a_getp (q := (x1 + 7)) (σ := aGs 109 [] ι) (o := x1) (T := TX2) (N := 11) C wU_X2 hw (aLinS_k hx1).1 (by decide) rfl 9 (by decide) rfl wF_X1_28 (aLinS_p hx1 ι 6 (by decide)) dX1_rate_11 ?_
      refine lv_iload_n hx hb dX1_rate_14 rfl (lv_at hl 2 rfl) ?_
      refine lv_aload_n hx hb dX1_rate_15 rfl (lv_at hl 0 rfl) ?_
      refine lv_aload_n hx hb dX1_rate_16 rfl (lv_at hl 1 rfl) ?_
      refine lv_iload_n hx hb dX1_rate_17 rfl (lv_at hl 2 rfl) ?_
      refine lv_iconst (v := (0 : Int32)) hx hb dX1_rate_18 (by decide) ?_
      obtain ⟨r19, hr19, hM⟩ := h_b hM
      refine a_callV (σ' := aGs 109 [] r19.2) (v := (some (.int r19.1))) (As := fun ad => [.ref (ad x1), .int y2, .int (0 : Int32)]) (rest := [.int y2, .ref (ad (x1 + 7))]) (o := 21) C hw (cs_X1_rateOne l (hx1) hr19) k_X1_rateOne wM_X1_31 ⟨⟨rfl, rfl⟩, ⟨Nat.le_of_ble_eq_true rfl, Nat.le_of_ble_eq_true rfl⟩⟩ rfl (by decide) rfl rfl rfl hl rfl (Nat.le_of_ble_eq_true rfl) dX1_rate_19 ⟨Nat.zero_le _, Nat.zero_le _⟩ (fun H locs hw => ?_)
      obtain ⟨hi, hM⟩ := h_i hM
      refine a_iast (σ := aGs 109 [] r19.2) (o := (x1 + 7)) C hw (aLinS_k hx1).2.2.2.2.2.2.2.1 hi rfl dX1_rate_22 (fun H locs hw => ?_)
      have hw : aW D dA ad adV (aGs 109 [] (pI r19.2 (x1 + 7) y2.toNatClampNeg r19.1)) A s H locs := hw
      refine lv_aload_n hx hb dX1_rate_23 rfl (lv_at hl 1 rfl) ?_
      refine a_getp (q := (x1 + 8)) (σ := aGs 109 [] (pI r19.2 (x1 + 7) y2.toNatClampNeg r19.1)) (o := x1) (T := TX2) (N := 11) C wU_X2 hw (aLinS_k hx1).1 (by decide) rfl 10 (by decide) rfl wF_X1_35 (aLinS_p hx1 (pI r19.2 (x1 + 7) y2.toNatClampNeg r19.1) 7 (by decide)) dX1_rate_24 ?_
      refine lv_iload_n hx hb dX1_rate_27 rfl (lv_at hl 2 rfl) ?_
      refine lv_aload_n hx hb dX1_rate_28 rfl (lv_at hl 0 rfl) ?_
      refine lv_aload_n hx hb dX1_rate_29 rfl (lv_at hl 1 rfl) ?_
      refine lv_iload_n hx hb dX1_rate_30 rfl (lv_at hl 2 rfl) ?_
      refine lv_iconst (v := (1 : Int32)) hx hb dX1_rate_31 (by decide) ?_
      obtain ⟨r32, hr32, hM⟩ := h_b hM
      refine a_callV (σ' := aGs 109 [] r32.2) (v := (some (.int r32.1))) (As := fun ad => [.ref (ad x1), .int y2, .int (1 : Int32)]) (rest := [.int y2, .ref (ad (x1 + 8))]) (o := 21) C hw (cs_X1_rateOne l (hx1) hr32) k_X1_rateOne wM_X1_31 ⟨⟨rfl, rfl⟩, ⟨Nat.le_of_ble_eq_true rfl, Nat.le_of_ble_eq_true rfl⟩⟩ rfl (by decide) rfl rfl rfl hl rfl (Nat.le_of_ble_eq_true rfl) dX1_rate_32 ⟨Nat.zero_le _, Nat.zero_le _⟩ (fun H locs hw => ?_)
      obtain ⟨hi, hM⟩ := h_i hM
      refine a_iast (σ := aGs 109 [] r32.2) (o := (x1 + 8)) C hw (aLinS_k hx1).2.2.2.2.2.2.2.2 hi rfl dX1_rate_35 (fun H locs hw => ?_)
      have hw : aW D dA ad adV (aGs 109 [] (pI r32.2 (x1 + 8) y2.toNatClampNeg r32.1)) A s H locs := hw
      refine lv_iinc (v := (y2 + 1)) (lv' := [(2, .int (y2 + 1)), (0, .ref (ad 21)), (1, .ref (ad x1))]) hx hb dX1_rate_36 hl (k := 2) rfl rfl (by decide) rfl (fun ls hl => ?_)
      refine lv_goto (tgt := 2) hx hb dX1_rate_39 (by decide) ?_
      exact ih ((y2 + 1)) hM hw (lv_sub hl [1, 2, 0] rfl)
set_option maxHeartbeats 4000000 in
set_option maxRecDepth 100000 in
theorem cs_X1_rate (l : Launch) {x1 : Nat} (hx1 : aLinS 109 [] x1) {ι : iS} {res : iS} (hM : m_X1_rate x1 ι = some res) : aM l yX1_rate cX1_rate 3 none rm_X1_rate (fun ad => [.ref (ad 21), .ref (ad x1)]) (aGs 109 [] ι) none (aGs 109 [] res) := by
  refine aM.of (by decide) (fun _ => Nat.le_of_ble_eq_true rfl) ?_
  intro p e s m args below meth c D dA ad adV A ls C hw hl
  have C : aX p m c cX1_rate 3 s args aTs RX1 meth none := C
  have hx := C.1.1
  have hb := C.1.2.1
  have hml := C.1.2.2.1
  have hown := C.1.2.2.2.1
  have hts := C.1.2.2.2.2
  have hl : lv_has ls 3 [(0, .ref (ad 21)), (1, .ref (ad x1))] := hl
  unfold m_X1_rate at hM
  refine lv_iconst (v := (0 : Int32)) hx hb dX1_rate_0 (by decide) ?_
  refine lv_istore_n (lv' := [(2, .int (0 : Int32)), (0, .ref (ad 21)), (1, .ref (ad x1))]) hx hb dX1_rate_1 rfl hl (by decide) rfl (fun ls hl => ?_)
  exact us_X1_rate_2 l C hx1 aF ((0 : Int32)) hM hw (lv_sub hl [1, 2, 0] rfl)
set_option maxHeartbeats 4000000 in
set_option maxRecDepth 100000 in
theorem us_X7_begins_41 (l : Launch) {p : Program} {e : Env} {s : State} {m : MethodId} {args : Array Value} {below : List Frame} {meth : Method} {c : Code} {D : va_G} {dA : Nat → ClassId} {ad adV : Nat → Nat} {A : Nat → Prop} (C : aX p m c cX7_begins 2 s args aTs RX7 meth none) {x1 : Nat} (hx1 : (aKd.take 125)[x1]? = some (9, 883)) {res : iS} : ∀ (n : Nat) (y1 : Int32) {ι : iS}, l_X7_begins_41 x1 n y1 ι = some res → ∀ {H : Heap} {locs : List Loc} {ls : Array Slot}, aW D dA ad adV (aGs 125 [] ι) A s H locs → lv_has ls 2 [(0, .ref (ad x1)), (1, .int y1)] → W p l e rm_X7_begins s m args below meth c H locs 0 0 (MQ below (aQ D dA ad (aGs 125 [] res) A none) args s 0 0 A) (F0 m 41 ls []) := by
  have hx := C.1.1
  have hb := C.1.2.1
  have hml := C.1.2.2.1
  have hown := C.1.2.2.2.1
  have hts := C.1.2.2.2.2
  intro n
  induction n with
  | zero => intro y1 ι hM; simp [l_X7_begins_41] at hM
  | succ n ih =>
    intro y1 ι hM H locs ls hw hl
    rw [l_X7_begins_41] at hM
    refine lv_iload_n hx hb dX7_begins_41 rfl (lv_at hl 1 rfl) ?_
    refine lv_iconst (v := (5 : Int32)) hx hb dX7_begins_42 (by decide) ?_
    refine lv_icmp_ge (tgt := 59) hx hb dX7_begins_43 (by decide) (fun hc => ?_) (fun hc => ?_)
    · replace hM := h_t hc hM
      cases h_e hM
      exact a_vret C hw dX7_begins_59
    · replace hM := h_f hc hM
      refine lv_aload_n hx hb dX7_begins_46 rfl (lv_at hl 0 rfl) ?_
      refine lv_bipush (v := (89 : Int32)) hx hb dX7_begins_47 (by decide) ?_
      refine lv_iload_n hx hb dX7_begins_49 rfl (lv_at hl 1 rfl) ?_
      refine lv_iadd hx hb dX7_begins_50 ?_
      refine lv_iconst (v := (-1 : Int32)) hx hb dX7_begins_51 (by decide) ?_
      obtain ⟨hi, hM⟩ := h_i hM
      refine a_iast (σ := aGs 125 [] ι) (o := x1) C hw hx1 hi rfl dX7_begins_52 (fun H locs hw => ?_)
      have hw : aW D dA ad adV (aGs 125 [] (pI ι x1 ((89 : Int32) + y1).toNatClampNeg (-1 : Int32))) A s H locs := hw
      refine lv_iinc (v := (y1 + 1)) (lv' := [(1, .int (y1 + 1)), (0, .ref (ad x1))]) hx hb dX7_begins_53 hl (k := 1) rfl rfl (by decide) rfl (fun ls hl => ?_)
      refine lv_goto (tgt := 41) hx hb dX7_begins_56 (by decide) ?_
      exact ih ((y1 + 1)) hM hw (lv_sub hl [1, 0] rfl)
set_option maxHeartbeats 4000000 in
set_option maxRecDepth 100000 in
theorem us_X7_begins_2 (l : Launch) {p : Program} {e : Env} {s : State} {m : MethodId} {args : Array Value} {below : List Frame} {meth : Method} {c : Code} {D : va_G} {dA : Nat → ClassId} {ad adV : Nat → Nat} {A : Nat → Prop} (C : aX p m c cX7_begins 2 s args aTs RX7 meth none) {x1 : Nat} (hx1 : (aKd.take 125)[x1]? = some (9, 883)) {res : iS} : ∀ (n : Nat) (y1 : Int32) {ι : iS}, l_X7_begins_2 x1 n y1 ι = some res → ∀ {H : Heap} {locs : List Loc} {ls : Array Slot}, aW D dA ad adV (aGs 125 [] ι) A s H locs → lv_has ls 2 [(0, .ref (ad x1)), (1, .int y1)] → W p l e rm_X7_begins s m args below meth c H locs 0 0 (MQ below (aQ D dA ad (aGs 125 [] res) A none) args s 0 0 A) (F0 m 2 ls []) := by
  have hx := C.1.1
  have hb := C.1.2.1
  have hml := C.1.2.2.1
  have hown := C.1.2.2.2.1
  have hts := C.1.2.2.2.2
  intro n
  induction n with
  | zero => intro y1 ι hM; simp [l_X7_begins_2] at hM
  | succ n ih =>
    intro y1 ι hM H locs ls hw hl
    rw [l_X7_begins_2] at hM
    refine lv_iload_n hx hb dX7_begins_2 rfl (lv_at hl 1 rfl) ?_
    refine lv_sipush (v := (883 : Int32)) hx hb dX7_begins_3 (by decide) ?_
    refine lv_icmp_ge (tgt := 19) hx hb dX7_begins_6 (by decide) (fun hc => ?_) (fun hc => ?_)
    · replace hM := h_t hc hM
      refine lv_aload_n hx hb dX7_begins_19 rfl (lv_at hl 0 rfl) ?_
      refine lv_iconst (v := (4 : Int32)) hx hb dX7_begins_20 (by decide) ?_
      refine lv_iconst (v := (2 : Int32)) hx hb dX7_begins_21 (by decide) ?_
      refine a_iast (σ := aGs 125 [] ι) (o := x1) C hw hx1 (aIn_v (by decide)) (show (4 : Int32).toNatClampNeg = 4 by decide) dX7_begins_22 (fun H locs hw => ?_)
      have hw : aW D dA ad adV (aGs 125 [] (pI ι x1 4 (2 : Int32))) A s H locs := hw
      refine lv_aload_n hx hb dX7_begins_23 rfl (lv_at hl 0 rfl) ?_
      refine lv_iconst (v := (5 : Int32)) hx hb dX7_begins_24 (by decide) ?_
      refine lv_bipush (v := (30 : Int32)) hx hb dX7_begins_25 (by decide) ?_
      refine a_iast (σ := aGs 125 [] (pI ι x1 4 (2 : Int32))) (o := x1) C hw hx1 (aIn_v (by decide)) (show (5 : Int32).toNatClampNeg = 5 by decide) dX7_begins_27 (fun H locs hw => ?_)
      have hw : aW D dA ad adV (aGs 125 [] (pI (pI ι x1 4 (2 : Int32)) x1 5 (30 : Int32))) A s H locs := hw
      refine lv_aload_n hx hb dX7_begins_28 rfl (lv_at hl 0 rfl) ?_
      refine lv_bipush (v := (6 : Int32)) hx hb dX7_begins_29 (by decide) ?_
      refine lv_iconst (v := (5 : Int32)) hx hb dX7_begins_31 (by decide) ?_
      refine a_iast (σ := aGs 125 [] (pI (pI ι x1 4 (2 : Int32)) x1 5 (30 : Int32))) (o := x1) C hw hx1 (aIn_v (by decide)) (show (6 : Int32).toNatClampNeg = 6 by decide) dX7_begins_32 (fun H locs hw => ?_)
      have hw : aW D dA ad adV (aGs 125 [] (pI (pI (pI ι x1 4 (2 : Int32)) x1 5 (30 : Int32)) x1 6 (5 : Int32))) A s H locs := hw
      refine lv_aload_n hx hb dX7_begins_33 rfl (lv_at hl 0 rfl) ?_
      refine lv_bipush (v := (7 : Int32)) hx hb dX7_begins_34 (by decide) ?_
      refine lv_bipush (v := (50 : Int32)) hx hb dX7_begins_36 (by decide) ?_
      refine a_iast (σ := aGs 125 [] (pI (pI (pI ι x1 4 (2 : Int32)) x1 5 (30 : Int32)) x1 6 (5 : Int32))) (o := x1) C hw hx1 (aIn_v (by decide)) (show (7 : Int32).toNatClampNeg = 7 by decide) dX7_begins_38 (fun H locs hw => ?_)
      have hw : aW D dA ad adV (aGs 125 [] (pI (pI (pI (pI ι x1 4 (2 : Int32)) x1 5 (30 : Int32)) x1 6 (5 : Int32)) x1 7 (50 : Int32))) A s H locs := hw
      refine lv_iconst (v := (0 : Int32)) hx hb dX7_begins_39 (by decide) ?_
      refine lv_istore_n (lv' := [(1, .int (0 : Int32)), (0, .ref (ad x1))]) hx hb dX7_begins_40 rfl hl (by decide) rfl (fun ls hl => ?_)
      exact us_X7_begins_41 l C hx1 aF ((0 : Int32)) hM hw (lv_sub hl [1, 0] rfl)
    · replace hM := h_f hc hM
      refine lv_aload_n hx hb dX7_begins_9 rfl (lv_at hl 0 rfl) ?_
      refine lv_iload_n hx hb dX7_begins_10 rfl (lv_at hl 1 rfl) ?_
      refine lv_iconst (v := (0 : Int32)) hx hb dX7_begins_11 (by decide) ?_
      obtain ⟨hi, hM⟩ := h_i hM
      refine a_iast (σ := aGs 125 [] ι) (o := x1) C hw hx1 hi rfl dX7_begins_12 (fun H locs hw => ?_)
      have hw : aW D dA ad adV (aGs 125 [] (pI ι x1 y1.toNatClampNeg (0 : Int32))) A s H locs := hw
      refine lv_iinc (v := (y1 + 1)) (lv' := [(1, .int (y1 + 1)), (0, .ref (ad x1))]) hx hb dX7_begins_13 hl (k := 1) rfl rfl (by decide) rfl (fun ls hl => ?_)
      refine lv_goto (tgt := 2) hx hb dX7_begins_16 (by decide) ?_
      exact ih ((y1 + 1)) hM hw (lv_sub hl [1, 0] rfl)
set_option maxHeartbeats 4000000 in
set_option maxRecDepth 100000 in
theorem cs_X7_begins (l : Launch) {x1 : Nat} (hx1 : (aKd.take 125)[x1]? = some (9, 883)) {ι : iS} {res : iS} (hM : m_X7_begins x1 ι = some res) : aM l yX7_begins cX7_begins 2 none rm_X7_begins (fun ad => [.ref (ad x1)]) (aGs 125 [] ι) none (aGs 125 [] res) := by
  refine aM.of (by decide) (fun _ => Nat.le_of_ble_eq_true rfl) ?_
  intro p e s m args below meth c D dA ad adV A ls C hw hl
  have C : aX p m c cX7_begins 2 s args aTs RX7 meth none := C
  have hx := C.1.1
  have hb := C.1.2.1
  have hml := C.1.2.2.1
  have hown := C.1.2.2.2.1
  have hts := C.1.2.2.2.2
  have hl : lv_has ls 2 [(0, .ref (ad x1))] := hl
  unfold m_X7_begins at hM
  refine lv_iconst (v := (0 : Int32)) hx hb dX7_begins_0 (by decide) ?_
  refine lv_istore_n (lv' := [(1, .int (0 : Int32)), (0, .ref (ad x1))]) hx hb dX7_begins_1 rfl hl (by decide) rfl (fun ls hl => ?_)
  exact us_X7_begins_2 l C hx1 aF ((0 : Int32)) hM hw (lv_sub hl [1, 0] rfl)
