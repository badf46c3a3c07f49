def m_X6_needPerson (x1 : Int32) (ι : iS) : Option ((Nat × iS) ⊕ (iS)) := if x1 < 0 then some (.inl (0, (pI ι 30 0 ((gI ι 30 0) + (1 : Int32))))) else if x1 < (gI ι 2 1) then some (.inr ι) else some (.inl (0, (pI ι 30 0 ((gI ι 30 0) + (1 : Int32)))))
def m_X6_needTrait (x1 : Int32) (ι : iS) : Option ((Nat × iS) ⊕ (iS)) := if x1 < 0 then some (.inl (0, (pI ι 30 0 ((gI ι 30 0) + (1 : Int32))))) else if x1 < (gI ι 2 0) then some (.inr ι) else some (.inl (0, (pI ι 30 0 ((gI ι 30 0) + (1 : Int32)))))
def m_X6_needPlace (x1 : Int32) (ι : iS) : Option ((Nat × iS) ⊕ (iS)) := if x1 < 0 then some (.inl (0, (pI ι 30 0 ((gI ι 30 0) + (1 : Int32))))) else if x1 < (gI ι 2 2) then some (.inr ι) else some (.inl (0, (pI ι 30 0 ((gI ι 30 0) + (1 : Int32)))))
def m_X6_needRange (x1 : Int32) (x2 : Int32) (x3 : Int32) (ι : iS) : Option ((Nat × iS) ⊕ (iS)) := if x1 < x2 then some (.inl (1, (pI ι 30 1 ((gI ι 30 1) + (1 : Int32))))) else if x1 ≤ x3 then some (.inr ι) else some (.inl (1, (pI ι 30 1 ((gI ι 30 1) + (1 : Int32)))))
def m_X6_needState (x1 : Int32) (ι : iS) : Option ((Nat × iS) ⊕ (iS)) := if x1 = 0 then some (.inl (2, (pI ι 30 2 ((gI ι 30 2) + (1 : Int32))))) else some (.inr ι)
def fx_X6_needPerson : Nat := 6
def wx_X6_needPerson : Nat := 90
theorem k_X6_needPerson : aCal RX6 yX6_needPerson cX6_needPerson 2 none 1 := ⟨wI_yX6_needPerson, wE_yX6_needPerson, wZ_X6, wC_yX6_needPerson, by decide +kernel⟩
set_option maxHeartbeats 4000000 in
set_option maxRecDepth 100000 in
theorem c_X6_needPerson (l : Launch) (hst : l.stackTraces = false) {x1 : Int32} {ι : iS} {res : (Nat × iS) ⊕ (iS)} (hM : m_X6_needPerson x1 ι = some res) : aMx l yX6_needPerson cX6_needPerson 2 none fx_X6_needPerson wx_X6_needPerson (fun ad => [.ref (ad 0), .int x1]) (aG ι) (xov res) := by
  refine aMx.of (by decide) (fun _ => Nat.le_of_ble_eq_true rfl) ?_
  intro p e s m args below meth c D dA ad adV A ls C hw hl hout
  have C : aX p m c cX6_needPerson 2 s args aTs RX6 meth none := C
  have hx := C.1.1
  have hb := C.1.2.1
  have hml := C.1.2.2.1
  have hown := C.1.2.2.2.1
  have hts := C.1.2.2.2.2
  have hl : lv_has ls 2 [(0, .ref (ad 0)), (1, .int x1)] := hl
  unfold m_X6_needPerson at hM
  refine lv_iload_n hx hb dX6_needPerson_0 rfl (lv_at hl 1 rfl) ?_
  refine lv_if_lt (tgt := 15) hx hb dX6_needPerson_1 (by decide) (fun hc => ?_) (fun hc => ?_)
  · replace hM := h_t hc hM
    refine lv_aload_n hx hb dX6_needPerson_15 rfl (lv_at hl 0 rfl) ?_
    refine a_getp (q := 30) (σ := aG ι) (o := 0) (T := TX6) (N := 11) C wU_X6 hw rfl (by decide) rfl 7 (by decide) rfl wF_X6_41 (aG_P rfl rfl) dX6_needPerson_16 ?_
    refine lv_iconst (v := (0 : Int32)) hx hb dX6_needPerson_19 (by decide) ?_
    refine lv_dup2_11 hx hb dX6_needPerson_20 rfl rfl ?_
    refine a_iald (σ := aG ι) (o := 30) C hw rfl (aIn_v (by decide)) (show (0 : Int32).toNatClampNeg = 0 by decide) dX6_needPerson_21 ?_
    refine lv_iconst (v := (1 : Int32)) hx hb dX6_needPerson_22 (by decide) ?_
    refine lv_iadd hx hb dX6_needPerson_23 ?_
    refine a_iast (σ := aG ι) (o := 30) C hw rfl (aIn_v (by decide)) (show (0 : Int32).toNatClampNeg = 0 by decide) dX6_needPerson_24 (fun H locs hw => ?_)
    have hw : aW D dA ad adV (aG (pI ι 30 0 ((gI ι 30 0) + (1 : Int32)))) A s H locs := hw
    cases h_e hM
    exact x_throw_nse (text := "no such person") (is := 212) (q := 1000012) hst C hw hl.1 hout (by decide) (by decide) (by decide) dX6_needPerson_25 dX6_needPerson_28 dX6_needPerson_29 dX6_needPerson_31 dX6_needPerson_34
  · replace hM := h_f hc hM
    refine lv_iload_n hx hb dX6_needPerson_4 rfl (lv_at hl 1 rfl) ?_
    refine lv_aload_n hx hb dX6_needPerson_5 rfl (lv_at hl 0 rfl) ?_
    refine a_getp (q := 2) (σ := aG ι) (o := 0) (T := TX6) (N := 11) C wU_X6 hw rfl (by decide) rfl 2 (by decide) rfl wF_X6_20 (aG_P rfl rfl) dX6_needPerson_6 ?_
    refine a_geti (σ := aG ι) (o := 2) (T := TX2) (N := 11) C wU_X2 hw (aLin_k lin2).1 (by decide) rfl 1 (by decide) rfl wF_X6_109 dX6_needPerson_9 ?_
    refine lv_icmp_lt (tgt := 35) hx hb dX6_needPerson_12 (by decide) (fun hc => ?_) (fun hc => ?_)
    · replace hM := h_t hc hM
      cases h_e hM
      exact x_vret C hw dX6_needPerson_35
    · replace hM := h_f hc hM
      refine lv_aload_n hx hb dX6_needPerson_15 rfl (lv_at hl 0 rfl) ?_
      refine a_getp (q := 30) (σ := aG ι) (o := 0) (T := TX6) (N := 11) C wU_X6 hw rfl (by decide) rfl 7 (by decide) rfl wF_X6_41 (aG_P rfl rfl) dX6_needPerson_16 ?_
      refine lv_iconst (v := (0 : Int32)) hx hb dX6_needPerson_19 (by decide) ?_
      refine lv_dup2_11 hx hb dX6_needPerson_20 rfl rfl ?_
      refine a_iald (σ := aG ι) (o := 30) C hw rfl (aIn_v (by decide)) (show (0 : Int32).toNatClampNeg = 0 by decide) dX6_needPerson_21 ?_
      refine lv_iconst (v := (1 : Int32)) hx hb dX6_needPerson_22 (by decide) ?_
      refine lv_iadd hx hb dX6_needPerson_23 ?_
      refine a_iast (σ := aG ι) (o := 30) C hw rfl (aIn_v (by decide)) (show (0 : Int32).toNatClampNeg = 0 by decide) dX6_needPerson_24 (fun H locs hw => ?_)
      have hw : aW D dA ad adV (aG (pI ι 30 0 ((gI ι 30 0) + (1 : Int32)))) A s H locs := hw
      cases h_e hM
      exact x_throw_nse (text := "no such person") (is := 212) (q := 1000012) hst C hw hl.1 hout (by decide) (by decide) (by decide) dX6_needPerson_25 dX6_needPerson_28 dX6_needPerson_29 dX6_needPerson_31 dX6_needPerson_34
def fx_X6_needTrait : Nat := 6
def wx_X6_needTrait : Nat := 90
theorem k_X6_needTrait : aCal RX6 yX6_needTrait cX6_needTrait 2 none 1 := ⟨wI_yX6_needTrait, wE_yX6_needTrait, wZ_X6, wC_yX6_needTrait, by decide +kernel⟩
set_option maxHeartbeats 4000000 in
set_option maxRecDepth 100000 in
theorem c_X6_needTrait (l : Launch) (hst : l.stackTraces = false) {x1 : Int32} {ι : iS} {res : (Nat × iS) ⊕ (iS)} (hM : m_X6_needTrait x1 ι = some res) : aMx l yX6_needTrait cX6_needTrait 2 none fx_X6_needTrait wx_X6_needTrait (fun ad => [.ref (ad 0), .int x1]) (aG ι) (xov res) := by
  refine aMx.of (by decide) (fun _ => Nat.le_of_ble_eq_true rfl) ?_
  intro p e s m args below meth c D dA ad adV A ls C hw hl hout
  have C : aX p m c cX6_needTrait 2 s args aTs RX6 meth none := C
  have hx := C.1.1
  have hb := C.1.2.1
  have hml := C.1.2.2.1
  have hown := C.1.2.2.2.1
  have hts := C.1.2.2.2.2
  have hl : lv_has ls 2 [(0, .ref (ad 0)), (1, .int x1)] := hl
  unfold m_X6_needTrait at hM
  refine lv_iload_n hx hb dX6_needTrait_0 rfl (lv_at hl 1 rfl) ?_
  refine lv_if_lt (tgt := 15) hx hb dX6_needTrait_1 (by decide) (fun hc => ?_) (fun hc => ?_)
  · replace hM := h_t hc hM
    refine lv_aload_n hx hb dX6_needTrait_15 rfl (lv_at hl 0 rfl) ?_
    refine a_getp (q := 30) (σ := aG ι) (o := 0) (T := TX6) (N := 11) C wU_X6 hw rfl (by decide) rfl 7 (by decide) rfl wF_X6_41 (aG_P rfl rfl) dX6_needTrait_16 ?_
    refine lv_iconst (v := (0 : Int32)) hx hb dX6_needTrait_19 (by decide) ?_
    refine lv_dup2_11 hx hb dX6_needTrait_20 rfl rfl ?_
    refine a_iald (σ := aG ι) (o := 30) C hw rfl (aIn_v (by decide)) (show (0 : Int32).toNatClampNeg = 0 by decide) dX6_needTrait_21 ?_
    refine lv_iconst (v := (1 : Int32)) hx hb dX6_needTrait_22 (by decide) ?_
    refine lv_iadd hx hb dX6_needTrait_23 ?_
    refine a_iast (σ := aG ι) (o := 30) C hw rfl (aIn_v (by decide)) (show (0 : Int32).toNatClampNeg = 0 by decide) dX6_needTrait_24 (fun H locs hw => ?_)
    have hw : aW D dA ad adV (aG (pI ι 30 0 ((gI ι 30 0) + (1 : Int32)))) A s H locs := hw
    cases h_e hM
    exact x_throw_nse (text := "no such trait") (is := 217) (q := 1000013) hst C hw hl.1 hout (by decide) (by decide) (by decide) dX6_needTrait_25 dX6_needTrait_28 dX6_needTrait_29 dX6_needTrait_31 dX6_needTrait_34
  · replace hM := h_f hc hM
    refine lv_iload_n hx hb dX6_needTrait_4 rfl (lv_at hl 1 rfl) ?_
    refine lv_aload_n hx hb dX6_needTrait_5 rfl (lv_at hl 0 rfl) ?_
    refine a_getp (q := 2) (σ := aG ι) (o := 0) (T := TX6) (N := 11) C wU_X6 hw rfl (by decide) rfl 2 (by decide) rfl wF_X6_20 (aG_P rfl rfl) dX6_needTrait_6 ?_
    refine a_geti (σ := aG ι) (o := 2) (T := TX2) (N := 11) C wU_X2 hw (aLin_k lin2).1 (by decide) rfl 0 (by decide) rfl wF_X6_62 dX6_needTrait_9 ?_
    refine lv_icmp_lt (tgt := 35) hx hb dX6_needTrait_12 (by decide) (fun hc => ?_) (fun hc => ?_)
    · replace hM := h_t hc hM
      cases h_e hM
      exact x_vret C hw dX6_needTrait_35
    · replace hM := h_f hc hM
      refine lv_aload_n hx hb dX6_needTrait_15 rfl (lv_at hl 0 rfl) ?_
      refine a_getp (q := 30) (σ := aG ι) (o := 0) (T := TX6) (N := 11) C wU_X6 hw rfl (by decide) rfl 7 (by decide) rfl wF_X6_41 (aG_P rfl rfl) dX6_needTrait_16 ?_
      refine lv_iconst (v := (0 : Int32)) hx hb dX6_needTrait_19 (by decide) ?_
      refine lv_dup2_11 hx hb dX6_needTrait_20 rfl rfl ?_
      refine a_iald (σ := aG ι) (o := 30) C hw rfl (aIn_v (by decide)) (show (0 : Int32).toNatClampNeg = 0 by decide) dX6_needTrait_21 ?_
      refine lv_iconst (v := (1 : Int32)) hx hb dX6_needTrait_22 (by decide) ?_
      refine lv_iadd hx hb dX6_needTrait_23 ?_
      refine a_iast (σ := aG ι) (o := 30) C hw rfl (aIn_v (by decide)) (show (0 : Int32).toNatClampNeg = 0 by decide) dX6_needTrait_24 (fun H locs hw => ?_)
      have hw : aW D dA ad adV (aG (pI ι 30 0 ((gI ι 30 0) + (1 : Int32)))) A s H locs := hw
      cases h_e hM
      exact x_throw_nse (text := "no such trait") (is := 217) (q := 1000013) hst C hw hl.1 hout (by decide) (by decide) (by decide) dX6_needTrait_25 dX6_needTrait_28 dX6_needTrait_29 dX6_needTrait_31 dX6_needTrait_34
def fx_X6_needPlace : Nat := 6
def wx_X6_needPlace : Nat := 90
theorem k_X6_needPlace : aCal RX6 yX6_needPlace cX6_needPlace 2 none 1 := ⟨wI_yX6_needPlace, wE_yX6_needPlace, wZ_X6, wC_yX6_needPlace, by decide +kernel⟩
set_option maxHeartbeats 4000000 in
set_option maxRecDepth 100000 in
theorem c_X6_needPlace (l : Launch) (hst : l.stackTraces = false) {x1 : Int32} {ι : iS} {res : (Nat × iS) ⊕ (iS)} (hM : m_X6_needPlace x1 ι = some res) : aMx l yX6_needPlace cX6_needPlace 2 none fx_X6_needPlace wx_X6_needPlace (fun ad => [.ref (ad 0), .int x1]) (aG ι) (xov res) := by
  refine aMx.of (by decide) (fun _ => Nat.le_of_ble_eq_true rfl) ?_
  intro p e s m args below meth c D dA ad adV A ls C hw hl hout
  have C : aX p m c cX6_needPlace 2 s args aTs RX6 meth none := C
  have hx := C.1.1
  have hb := C.1.2.1
  have hml := C.1.2.2.1
  have hown := C.1.2.2.2.1
  have hts := C.1.2.2.2.2
  have hl : lv_has ls 2 [(0, .ref (ad 0)), (1, .int x1)] := hl
  unfold m_X6_needPlace at hM
  refine lv_iload_n hx hb dX6_needPlace_0 rfl (lv_at hl 1 rfl) ?_
  refine lv_if_lt (tgt := 15) hx hb dX6_needPlace_1 (by decide) (fun hc => ?_) (fun hc => ?_)
  · replace hM := h_t hc hM
    refine lv_aload_n hx hb dX6_needPlace_15 rfl (lv_at hl 0 rfl) ?_
    refine a_getp (q := 30) (σ := aG ι) (o := 0) (T := TX6) (N := 11) C wU_X6 hw rfl (by decide) rfl 7 (by decide) rfl wF_X6_41 (aG_P rfl rfl) dX6_needPlace_16 ?_
    refine lv_iconst (v := (0 : Int32)) hx hb dX6_needPlace_19 (by decide) ?_
    refine lv_dup2_11 hx hb dX6_needPlace_20 rfl rfl ?_
    refine a_iald (σ := aG ι) (o := 30) C hw rfl (aIn_v (by decide)) (show (0 : Int32).toNatClampNeg = 0 by decide) dX6_needPlace_21 ?_
    refine lv_iconst (v := (1 : Int32)) hx hb dX6_needPlace_22 (by decide) ?_
    refine lv_iadd hx hb dX6_needPlace_23 ?_
    refine a_iast (σ := aG ι) (o := 30) C hw rfl (aIn_v (by decide)) (show (0 : Int32).toNatClampNeg = 0 by decide) dX6_needPlace_24 (fun H locs hw => ?_)
    have hw : aW D dA ad adV (aG (pI ι 30 0 ((gI ι 30 0) + (1 : Int32)))) A s H locs := hw
    cases h_e hM
    exact x_throw_nse (text := "no such place") (is := 219) (q := 1000014) hst C hw hl.1 hout (by decide) (by decide) (by decide) dX6_needPlace_25 dX6_needPlace_28 dX6_needPlace_29 dX6_needPlace_31 dX6_needPlace_34
  · replace hM := h_f hc hM
    refine lv_iload_n hx hb dX6_needPlace_4 rfl (lv_at hl 1 rfl) ?_
    refine lv_aload_n hx hb dX6_needPlace_5 rfl (lv_at hl 0 rfl) ?_
    refine a_getp (q := 2) (σ := aG ι) (o := 0) (T := TX6) (N := 11) C wU_X6 hw rfl (by decide) rfl 2 (by decide) rfl wF_X6_20 (aG_P rfl rfl) dX6_needPlace_6 ?_
    refine a_geti (σ := aG ι) (o := 2) (T := TX2) (N := 11) C wU_X2 hw (aLin_k lin2).1 (by decide) rfl 2 (by decide) rfl wF_X6_119 dX6_needPlace_9 ?_
    refine lv_icmp_lt (tgt := 35) hx hb dX6_needPlace_12 (by decide) (fun hc => ?_) (fun hc => ?_)
    · replace hM := h_t hc hM
      cases h_e hM
      exact x_vret C hw dX6_needPlace_35
    · replace hM := h_f hc hM
      refine lv_aload_n hx hb dX6_needPlace_15 rfl (lv_at hl 0 rfl) ?_
      refine a_getp (q := 30) (σ := aG ι) (o := 0) (T := TX6) (N := 11) C wU_X6 hw rfl (by decide) rfl 7 (by decide) rfl wF_X6_41 (aG_P rfl rfl) dX6_needPlace_16 ?_
      refine lv_iconst (v := (0 : Int32)) hx hb dX6_needPlace_19 (by decide) ?_
      refine lv_dup2_11 hx hb dX6_needPlace_20 rfl rfl ?_
      refine a_iald (σ := aG ι) (o := 30) C hw rfl (aIn_v (by decide)) (show (0 : Int32).toNatClampNeg = 0 by decide) dX6_needPlace_21 ?_
      refine lv_iconst (v := (1 : Int32)) hx hb dX6_needPlace_22 (by decide) ?_
      refine lv_iadd hx hb dX6_needPlace_23 ?_
      refine a_iast (σ := aG ι) (o := 30) C hw rfl (aIn_v (by decide)) (show (0 : Int32).toNatClampNeg = 0 by decide) dX6_needPlace_24 (fun H locs hw => ?_)
      have hw : aW D dA ad adV (aG (pI ι 30 0 ((gI ι 30 0) + (1 : Int32)))) A s H locs := hw
      cases h_e hM
      exact x_throw_nse (text := "no such place") (is := 219) (q := 1000014) hst C hw hl.1 hout (by decide) (by decide) (by decide) dX6_needPlace_25 dX6_needPlace_28 dX6_needPlace_29 dX6_needPlace_31 dX6_needPlace_34
def fx_X6_needRange : Nat := 6
def wx_X6_needRange : Nat := 90
theorem k_X6_needRange : aCal RX6 yX6_needRange cX6_needRange 4 none 3 := ⟨wI_yX6_needRange, wE_yX6_needRange, wZ_X6, wC_yX6_needRange, by decide +kernel⟩
set_option maxHeartbeats 4000000 in
set_option maxRecDepth 100000 in
theorem c_X6_needRange (l : Launch) (hst : l.stackTraces = false) {x1 : Int32} {x2 : Int32} {x3 : Int32} {ι : iS} {res : (Nat × iS) ⊕ (iS)} (hM : m_X6_needRange x1 x2 x3 ι = some res) : aMx l yX6_needRange cX6_needRange 4 none fx_X6_needRange wx_X6_needRange (fun ad => [.ref (ad 0), .int x1, .int x2, .int x3]) (aG ι) (xov res) := by
  refine aMx.of (by decide) (fun _ => Nat.le_of_ble_eq_true rfl) ?_
  intro p e s m args below meth c D dA ad adV A ls C hw hl hout
  have C : aX p m c cX6_needRange 4 s args aTs RX6 meth none := C
  have hx := C.1.1
  have hb := C.1.2.1
  have hml := C.1.2.2.1
  have hown := C.1.2.2.2.1
  have hts := C.1.2.2.2.2
  have hl : lv_has ls 4 [(0, .ref (ad 0)), (1, .int x1), (2, .int x2), (3, .int x3)] := hl
  unfold m_X6_needRange at hM
  refine lv_iload_n hx hb dX6_needRange_0 rfl (lv_at hl 1 rfl) ?_
  refine lv_iload_n hx hb dX6_needRange_1 rfl (lv_at hl 2 rfl) ?_
  refine lv_icmp_lt (tgt := 10) hx hb dX6_needRange_2 (by decide) (fun hc => ?_) (fun hc => ?_)
  · replace hM := h_t hc hM
    refine lv_aload_n hx hb dX6_needRange_10 rfl (lv_at hl 0 rfl) ?_
    refine a_getp (q := 30) (σ := aG ι) (o := 0) (T := TX6) (N := 11) C wU_X6 hw rfl (by decide) rfl 7 (by decide) rfl wF_X6_41 (aG_P rfl rfl) dX6_needRange_11 ?_
    refine lv_iconst (v := (1 : Int32)) hx hb dX6_needRange_14 (by decide) ?_
    refine lv_dup2_11 hx hb dX6_needRange_15 rfl rfl ?_
    refine a_iald (σ := aG ι) (o := 30) C hw rfl (aIn_v (by decide)) (show (1 : Int32).toNatClampNeg = 1 by decide) dX6_needRange_16 ?_
    refine lv_iconst (v := (1 : Int32)) hx hb dX6_needRange_17 (by decide) ?_
    refine lv_iadd hx hb dX6_needRange_18 ?_
    refine a_iast (σ := aG ι) (o := 30) C hw rfl (aIn_v (by decide)) (show (1 : Int32).toNatClampNeg = 1 by decide) dX6_needRange_19 (fun H locs hw => ?_)
    have hw : aW D dA ad adV (aG (pI ι 30 1 ((gI ι 30 1) + (1 : Int32)))) A s H locs := hw
    cases h_e hM
    exact x_throw_iae (text := "no such number") (is := 223) (q := 1000015) hst C hw hl.1 hout (by decide) (by decide) (by decide) dX6_needRange_20 dX6_needRange_23 dX6_needRange_24 dX6_needRange_26 dX6_needRange_29
  · replace hM := h_f hc hM
    refine lv_iload_n hx hb dX6_needRange_5 rfl (lv_at hl 1 rfl) ?_
    refine lv_iload_n hx hb dX6_needRange_6 rfl (lv_at hl 3 rfl) ?_
    refine lv_icmp_le (tgt := 30) hx hb dX6_needRange_7 (by decide) (fun hc => ?_) (fun hc => ?_)
    · replace hM := h_t hc hM
      cases h_e hM
      exact x_vret C hw dX6_needRange_30
    · replace hM := h_f hc hM
      refine lv_aload_n hx hb dX6_needRange_10 rfl (lv_at hl 0 rfl) ?_
      refine a_getp (q := 30) (σ := aG ι) (o := 0) (T := TX6) (N := 11) C wU_X6 hw rfl (by decide) rfl 7 (by decide) rfl wF_X6_41 (aG_P rfl rfl) dX6_needRange_11 ?_
      refine lv_iconst (v := (1 : Int32)) hx hb dX6_needRange_14 (by decide) ?_
      refine lv_dup2_11 hx hb dX6_needRange_15 rfl rfl ?_
      refine a_iald (σ := aG ι) (o := 30) C hw rfl (aIn_v (by decide)) (show (1 : Int32).toNatClampNeg = 1 by decide) dX6_needRange_16 ?_
      refine lv_iconst (v := (1 : Int32)) hx hb dX6_needRange_17 (by decide) ?_
      refine lv_iadd hx hb dX6_needRange_18 ?_
      refine a_iast (σ := aG ι) (o := 30) C hw rfl (aIn_v (by decide)) (show (1 : Int32).toNatClampNeg = 1 by decide) dX6_needRange_19 (fun H locs hw => ?_)
      have hw : aW D dA ad adV (aG (pI ι 30 1 ((gI ι 30 1) + (1 : Int32)))) A s H locs := hw
      cases h_e hM
      exact x_throw_iae (text := "no such number") (is := 223) (q := 1000015) hst C hw hl.1 hout (by decide) (by decide) (by decide) dX6_needRange_20 dX6_needRange_23 dX6_needRange_24 dX6_needRange_26 dX6_needRange_29
def fx_X6_needState : Nat := 6
def wx_X6_needState : Nat := 90
theorem k_X6_needState : aCal RX6 yX6_needState cX6_needState 2 none 1 := ⟨wI_yX6_needState, wE_yX6_needState, wZ_X6, wC_yX6_needState, by decide +kernel⟩
set_option maxHeartbeats 4000000 in
set_option maxRecDepth 100000 in
theorem c_X6_needState (l : Launch) (hst : l.stackTraces = false) {x1 : Int32} {ι : iS} {res : (Nat × iS) ⊕ (iS)} (hM : m_X6_needState x1 ι = some res) : aMx l yX6_needState cX6_needState 2 none fx_X6_needState wx_X6_needState (fun ad => [.ref (ad 0), .int x1]) (aG ι) (xov res) := by
  refine aMx.of (by decide) (fun _ => Nat.le_of_ble_eq_true rfl) ?_
  intro p e s m args below meth c D dA ad adV A ls C hw hl hout
  have C : aX p m c cX6_needState 2 s args aTs RX6 meth none := C
  have hx := C.1.1
  have hb := C.1.2.1
  have hml := C.1.2.2.1
  have hown := C.1.2.2.2.1
  have hts := C.1.2.2.2.2
  have hl : lv_has ls 2 [(0, .ref (ad 0)), (1, .int x1)] := hl
  unfold m_X6_needState at hM
  refine lv_iload_n hx hb dX6_needState_0 rfl (lv_at hl 1 rfl) ?_
  refine lv_if_ne (tgt := 24) hx hb dX6_needState_1 (by decide) (fun hc => ?_) (fun hc => ?_)
  · replace hM := h_f hc hM
    cases h_e hM
    exact x_vret C hw dX6_needState_24
  · replace hM := h_t hc hM
    refine lv_aload_n hx hb dX6_needState_4 rfl (lv_at hl 0 rfl) ?_
    refine a_getp (q := 30) (σ := aG ι) (o := 0) (T := TX6) (N := 11) C wU_X6 hw rfl (by decide) rfl 7 (by decide) rfl wF_X6_41 (aG_P rfl rfl) dX6_needState_5 ?_
    refine lv_iconst (v := (2 : Int32)) hx hb dX6_needState_8 (by decide) ?_
    refine lv_dup2_11 hx hb dX6_needState_9 rfl rfl ?_
    refine a_iald (σ := aG ι) (o := 30) C hw rfl (aIn_v (by decide)) (show (2 : Int32).toNatClampNeg = 2 by decide) dX6_needState_10 ?_
    refine lv_iconst (v := (1 : Int32)) hx hb dX6_needState_11 (by decide) ?_
    refine lv_iadd hx hb dX6_needState_12 ?_
    refine a_iast (σ := aG ι) (o := 30) C hw rfl (aIn_v (by decide)) (show (2 : Int32).toNatClampNeg = 2 by decide) dX6_needState_13 (fun H locs hw => ?_)
    have hw : aW D dA ad adV (aG (pI ι 30 2 ((gI ι 30 2) + (1 : Int32)))) A s H locs := hw
    cases h_e hM
    exact x_throw_ise (text := "not as the persons are shown") (is := 228) (q := 1000016) hst C hw hl.1 hout (by decide) (by decide) (by decide) dX6_needState_14 dX6_needState_17 dX6_needState_18 dX6_needState_20 dX6_needState_23
