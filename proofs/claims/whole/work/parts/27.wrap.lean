theorem aEx0 : aEx 0 = "java/util/NoSuchElementException" := rfl
theorem aEx1 : aEx 1 = "java/lang/IllegalArgumentException" := rfl
theorem aEx2 : aEx 2 = "java/lang/IllegalStateException" := rfl
def w_text (x1 : Int32) (ι : iS) : Option (Int32 × iS) := Option.bind (m_X6_text x1 ι) fun r => match r with | .inl q => if q.1 = 1 then some (1, q.2) else none | .inr q => some (0, pJ q.2 125 0 q.1.toInt64)
def w_show (x1 : Int32) (ι : iS) : Option (Int32 × iS) := Option.bind (m_X6_show x1 ι) fun r => match r with | .inl q => if q.1 = 0 then some (1, q.2) else if q.1 = 2 then some (2, q.2) else none | .inr q => some (0, pJ q.2 125 0 q.1.toInt64)
def w_hide (x1 : Int32) (ι : iS) : Option (Int32 × iS) := Option.bind (m_X6_hide x1 ι) fun r => match r with | .inl q => if q.1 = 0 then some (1, q.2) else none | .inr q => some (0, pJ q.2 125 0 q.1.toInt64)
def w_change (x1 : Int32) (x2 : Int32) (ι : iS) : Option (Int32 × iS) := Option.bind (m_X6_change x1 x2 ι) fun r => match r with | .inl q => if q.1 = 1 then some (1, q.2) else none | .inr q => some (0, pJ q.2 125 0 q.1.toInt64)
def w_mock (x1 : Int32) (ι : iS) : Option (Int32 × iS) := Option.bind (m_X6_mock x1 ι) fun r => match r with | .inl q => if q.1 = 0 then some (1, q.2) else if q.1 = 2 then some (2, q.2) else none | .inr q => some (0, pJ q.2 125 0 q.1.toInt64)
def w_told (x1 : Int32) (ι : iS) : Option (Int32 × iS) := Option.bind (m_X6_told x1 ι) fun r => match r with | .inl q => if q.1 = 1 then some (1, q.2) else none | .inr q => some (0, pJ q.2 125 0 q.1.toInt64)
def w_trait (x1 : Int32) (x2 : Int32) (ι : iS) : Option (Int32 × iS) := Option.bind (m_X6_trait x1 x2 ι) fun r => match r with | .inl q => if q.1 = 0 then some (1, q.2) else if q.1 = 1 then some (2, q.2) else none | .inr q => some (0, pJ q.2 125 0 q.1.toInt64)
def w_value (x1 : Int32) (x2 : Int32) (ι : iS) : Option (Int32 × iS) := Option.bind (m_X6_value x1 x2 ι) fun r => match r with | .inl q => if q.1 = 0 then some (1, q.2) else none | .inr q => some (0, pJ q.2 125 0 q.1.toInt64)
def w_shown (x1 : Int32) (ι : iS) : Option (Int32 × iS) := Option.bind (m_X6_shown x1 ι) fun r => match r with | .inl q => if q.1 = 0 then some (1, q.2) else none | .inr q => some (0, pJ q.2 125 0 q.1.toInt64)
def w_match (x1 : Int32) (x2 : Int32) (ι : iS) : Option (Int32 × iS) := Option.bind (m_X6_match x1 x2 ι) fun r => match r with | .inl q => if q.1 = 0 then some (1, q.2) else none | .inr q => some (0, pJ q.2 125 0 q.1.toInt64)
def w_mocks (x1 : Int32) (ι : iS) : Option (Int32 × iS) := Option.bind (m_X6_mocks x1 ι) fun r => match r with | .inl q => if q.1 = 0 then some (1, q.2) else none | .inr q => some (0, pJ q.2 125 0 q.1.toInt64)
def w_alike (x1 : Int32) (x2 : Int32) (ι : iS) : Option (Int32 × iS) := Option.bind (m_X6_alike x1 x2 ι) fun r => match r with | .inl q => if q.1 = 0 then some (1, q.2) else none | .inr q => some (0, pJ q.2 125 0 q.1.toInt64)
def w_chance (x1 : Int32) (x2 : Int32) (x3 : Int32) (x4 : Int32) (x5 : Int32) (ι : iS) : Option (Int32 × iS) := Option.bind (m_X6_chance x1 x2 x3 x4 x5 ι) fun r => match r with | .inl q => if q.1 = 0 then some (1, q.2) else if q.1 = 1 then some (2, q.2) else none | .inr q => some (0, pJ q.2 125 0 q.1)
def w_size (x1 : Int32) (ι : iS) : Option (Int32 × iS) := Option.bind (m_X6_size x1 ι) fun r => match r with | .inl q => if q.1 = 1 then some (1, q.2) else none | .inr q => some (0, pJ q.2 125 0 q.1)
def w_fairest (x1 : Int32) (x2 : Int32) (ι : iS) : Option (Int32 × iS) := Option.bind (m_X6_fairest x1 x2 ι) fun r => match r with | .inl q => if q.1 = 1 then some (1, q.2) else none | .inr q => some (0, pJ q.2 125 0 q.1)
def w_odds (x1 : Int32) (x2 : Int32) (x3 : Int32) (x4 : Int32) (ι : iS) : Option (Int32 × iS) := Option.bind (m_X6_odds x1 x2 x3 x4 ι) fun r => match r with | .inl q => if q.1 = 1 then some (1, q.2) else if q.1 = 2 then some (2, q.2) else none | .inr q => some (0, pJ q.2 125 0 q.1)
def w_cut (x1 : Int32) (ι : iS) : Option (Int32 × iS) := Option.bind (m_X6_cut x1 ι) fun r => match r with | .inl q => if q.1 = 1 then some (1, q.2) else if q.1 = 2 then some (2, q.2) else none | .inr q => some (0, pJ q.2 125 0 q.1.toInt64)
def w_nudged (x1 : Int32) (ι : iS) : Option (Int32 × iS) := Option.bind (m_X6_nudged x1 ι) fun r => match r with | .inl q => if q.1 = 1 then some (1, q.2) else if q.1 = 2 then some (2, q.2) else none | .inr q => some (0, pJ q.2 125 0 q.1.toInt64)
theorem wW_yL_text : Cond.codeWith yL_text cL_text 4 (some .int) [(0, 9, 12, 13)] ∈ aTs := aTs_2 111 (by decide +kernel) (by decide +kernel)
def fw_text : Nat := 106
def ww_text : Nat := 2537
set_option maxHeartbeats 200000 in
set_option maxRecDepth 100000 in
theorem cw_text (l : Launch) (hst : l.stackTraces = false) {x1 : Int32} {ι : iS} {res : Int32 × iS} (hM : w_text x1 ι = some res) : aMw l yL_text cL_text 4 [(0, 9, 12, 13)] fw_text ww_text (fun ad => [.ref (ad 0), .int x1, .ref (ad 125)]) (aG ι) (some (.int res.1)) (aG res.2) := by
  refine aMw.of (by decide) (fun _ => Nat.le_of_ble_eq_true rfl) ?_
  intro p e s m args below meth c D dA ad adV A ls C hw hl htb
  have C : aX p m c cL_text 4 s args aTs RL meth (some .int) := C
  have hx := C.1.1
  have hb := C.1.2.1
  have hl : lv_has ls 4 [(0, .ref (ad 0)), (1, .int x1), (2, .ref (ad 125))] := hl
  unfold w_text at hM
  obtain ⟨r, hr, hM⟩ := h_b hM
  refine lv_aload_n hx hb dL_text_0 rfl (lv_at hl 2 rfl) ?_
  refine lv_iconst (v := (0 : Int32)) hx hb dL_text_1 (by decide) ?_
  refine lv_aload_n hx hb dL_text_2 rfl (lv_at hl 0 rfl) ?_
  refine lv_iload_n hx hb dL_text_3 rfl (lv_at hl 1 rfl) ?_
  cases r with
  | inl q =>
    obtain ⟨e9, ι1⟩ := q
    replace hM : (if e9 = 1 then some (1, ι1) else none) = some res := hM
    by_cases he0 : e9 = 1
    · replace hM := h_t he0 hM
      subst he0
      cases h_e hM
      have q9 := c_X6_text l hst hr
      replace q9 : aMx l yX6_text cX6_text 3 (some .int) fx_X6_text wx_X6_text (fun ad => [.ref (ad 0), .int x1]) (aG ι) (.inl (aEx 1, aG ι1)) := q9
      rw [aEx1] at q9
      refine x_callC (σ' := aG ι1) (As := fun ad => [.int x1]) (rest := [.int (0 : Int32), .ref (ad 125)]) (ob := 0) (pre := []) (x := ⟨0, 9, 12, 13⟩) (suf := []) C hw q9 k_X6_text wM_L_7 ⟨Nat.le_of_ble_eq_true rfl, Nat.le_of_ble_eq_true rfl⟩ rfl (by decide) rfl rfl rfl hl rfl (Nat.le_of_ble_eq_true rfl) dL_text_4 ⟨Nat.le_of_ble_eq_true rfl, Nat.le_of_ble_eq_true rfl⟩ htb (fun z hz => absurd hz List.not_mem_nil) (by decide) (by decide) wK_L_13 (by simp [aXs]) (fun q8 H locs hw => ?_)
      refine lv_astore_n (lv' := [(3, .ref q8), (0, .ref (ad 0)), (1, .int x1), (2, .ref (ad 125))]) hx hb dL_text_12 rfl hl (by decide) rfl (fun ls hl => ?_)
      refine lv_iconst (v := 1) hx hb dL_text_13 (by decide) ?_
      exact w_iret C hw (by decide) (by decide) dL_text_14
    · replace hM := h_f he0 hM
      cases hM
  | inr q =>
    replace hM : some (0, pJ q.2 125 0 q.1.toInt64) = some res := hM
    have q9 := c_X6_text l hst hr
    refine x_callN (σ' := aG q.2) (v := (some (.int q.1))) (As := fun ad => [.int x1]) (rest := [.int (0 : Int32), .ref (ad 125)]) (ob := 0) C hw q9 k_X6_text wM_L_7 ⟨Nat.le_of_ble_eq_true rfl, Nat.le_of_ble_eq_true rfl⟩ rfl (by decide) rfl rfl rfl hl rfl (Nat.le_of_ble_eq_true rfl) dL_text_4 ⟨Nat.zero_le _, Nat.zero_le _⟩ (fun H locs hw => ?_)
    refine lv_i2l hx hb dL_text_7 rfl ?_
    refine a_last (σ := aG q.2) (o := 125) C hw rfl (aIn_v (by decide)) (show (0 : Int32).toNatClampNeg = 0 by decide) dL_text_8 (fun H locs hw => ?_)
    have hw : aW D dA ad adV (aG (pJ q.2 125 0 q.1.toInt64)) A s H locs := by rw [aG_PJ] at hw; exact hw
    refine lv_goto (tgt := 15) hx hb dL_text_9 (by decide) ?_
    refine lv_iconst (v := 0) hx hb dL_text_15 (by decide) ?_
    cases h_e hM
    exact w_iret C hw (by decide) (by decide) dL_text_16
theorem wW_yL_show : Cond.codeWith yL_show cL_show 4 (some .int) [(0, 9, 12, 18), (0, 9, 15, 20)] ∈ aTs := aTs_3 147 (by decide +kernel) (by decide +kernel)
def fw_show : Nat := 8
def ww_show : Nat := 132
set_option maxHeartbeats 200000 in
set_option maxRecDepth 100000 in
theorem cw_show (l : Launch) (hst : l.stackTraces = false) {x1 : Int32} {ι : iS} {res : Int32 × iS} (hM : w_show x1 ι = some res) : aMw l yL_show cL_show 4 [(0, 9, 12, 18), (0, 9, 15, 20)] fw_show ww_show (fun ad => [.ref (ad 0), .int x1, .ref (ad 125)]) (aG ι) (some (.int res.1)) (aG res.2) := by
  refine aMw.of (by decide) (fun _ => Nat.le_of_ble_eq_true rfl) ?_
  intro p e s m args below meth c D dA ad adV A ls C hw hl htb
  have C : aX p m c cL_show 4 s args aTs RL meth (some .int) := C
  have hx := C.1.1
  have hb := C.1.2.1
  have hl : lv_has ls 4 [(0, .ref (ad 0)), (1, .int x1), (2, .ref (ad 125))] := hl
  unfold w_show at hM
  obtain ⟨r, hr, hM⟩ := h_b hM
  refine lv_aload_n hx hb dL_show_0 rfl (lv_at hl 2 rfl) ?_
  refine lv_iconst (v := (0 : Int32)) hx hb dL_show_1 (by decide) ?_
  refine lv_aload_n hx hb dL_show_2 rfl (lv_at hl 0 rfl) ?_
  refine lv_iload_n hx hb dL_show_3 rfl (lv_at hl 1 rfl) ?_
  cases r with
  | inl q =>
    obtain ⟨e9, ι1⟩ := q
    replace hM : (if e9 = 0 then some (1, ι1) else if e9 = 2 then some (2, ι1) else none) = some res := hM
    by_cases he0 : e9 = 0
    · replace hM := h_t he0 hM
      subst he0
      cases h_e hM
      have q9 := c_X6_show l hst hr
      replace q9 : aMx l yX6_show cX6_show 2 (some .int) fx_X6_show wx_X6_show (fun ad => [.ref (ad 0), .int x1]) (aG ι) (.inl (aEx 0, aG ι1)) := q9
      rw [aEx0] at q9
      refine x_callC (σ' := aG ι1) (As := fun ad => [.int x1]) (rest := [.int (0 : Int32), .ref (ad 125)]) (ob := 0) (pre := []) (x := ⟨0, 9, 12, 18⟩) (suf := [⟨0, 9, 15, 20⟩]) C hw q9 k_X6_show wM_L_15 ⟨Nat.le_of_ble_eq_true rfl, Nat.le_of_ble_eq_true rfl⟩ rfl (by decide) rfl rfl rfl hl rfl (Nat.le_of_ble_eq_true rfl) dL_show_4 ⟨Nat.le_of_ble_eq_true rfl, Nat.le_of_ble_eq_true rfl⟩ htb (fun z hz => absurd hz List.not_mem_nil) (by decide) (by decide) wK_L_18 (by simp [aXs]) (fun q8 H locs hw => ?_)
      refine lv_astore_n (lv' := [(3, .ref q8), (0, .ref (ad 0)), (1, .int x1), (2, .ref (ad 125))]) hx hb dL_show_12 rfl hl (by decide) rfl (fun ls hl => ?_)
      refine lv_iconst (v := 1) hx hb dL_show_13 (by decide) ?_
      exact w_iret C hw (by decide) (by decide) dL_show_14
    · replace hM := h_f he0 hM
      by_cases he1 : e9 = 2
      · replace hM := h_t he1 hM
        subst he1
        cases h_e hM
        have q9 := c_X6_show l hst hr
        replace q9 : aMx l yX6_show cX6_show 2 (some .int) fx_X6_show wx_X6_show (fun ad => [.ref (ad 0), .int x1]) (aG ι) (.inl (aEx 2, aG ι1)) := q9
        rw [aEx2] at q9
        refine x_callC (σ' := aG ι1) (As := fun ad => [.int x1]) (rest := [.int (0 : Int32), .ref (ad 125)]) (ob := 0) (pre := [⟨0, 9, 12, 18⟩]) (x := ⟨0, 9, 15, 20⟩) (suf := []) C hw q9 k_X6_show wM_L_15 ⟨Nat.le_of_ble_eq_true rfl, Nat.le_of_ble_eq_true rfl⟩ rfl (by decide) rfl rfl rfl hl rfl (Nat.le_of_ble_eq_true rfl) dL_show_4 ⟨Nat.le_of_ble_eq_true rfl, Nat.le_of_ble_eq_true rfl⟩ htb (fun z hz => by cases List.mem_singleton.mp hz; exact Or.inr ⟨by decide, "java/util/NoSuchElementException", wK_L_18, by simp [aNcs]⟩) (by decide) (by decide) wK_L_20 (by simp [aXs]) (fun q8 H locs hw => ?_)
        refine lv_astore_n (lv' := [(3, .ref q8), (0, .ref (ad 0)), (1, .int x1), (2, .ref (ad 125))]) hx hb dL_show_15 rfl hl (by decide) rfl (fun ls hl => ?_)
        refine lv_iconst (v := 2) hx hb dL_show_16 (by decide) ?_
        exact w_iret C hw (by decide) (by decide) dL_show_17
      · replace hM := h_f he1 hM
        cases hM
  | inr q =>
    replace hM : some (0, pJ q.2 125 0 q.1.toInt64) = some res := hM
    have q9 := c_X6_show l hst hr
    refine x_callN (σ' := aG q.2) (v := (some (.int q.1))) (As := fun ad => [.int x1]) (rest := [.int (0 : Int32), .ref (ad 125)]) (ob := 0) C hw q9 k_X6_show wM_L_15 ⟨Nat.le_of_ble_eq_true rfl, Nat.le_of_ble_eq_true rfl⟩ rfl (by decide) rfl rfl rfl hl rfl (Nat.le_of_ble_eq_true rfl) dL_show_4 ⟨Nat.zero_le _, Nat.zero_le _⟩ (fun H locs hw => ?_)
    refine lv_i2l hx hb dL_show_7 rfl ?_
    refine a_last (σ := aG q.2) (o := 125) C hw rfl (aIn_v (by decide)) (show (0 : Int32).toNatClampNeg = 0 by decide) dL_show_8 (fun H locs hw => ?_)
    have hw : aW D dA ad adV (aG (pJ q.2 125 0 q.1.toInt64)) A s H locs := by rw [aG_PJ] at hw; exact hw
    refine lv_goto (tgt := 18) hx hb dL_show_9 (by decide) ?_
    refine lv_iconst (v := 0) hx hb dL_show_18 (by decide) ?_
    cases h_e hM
    exact w_iret C hw (by decide) (by decide) dL_show_19
theorem wW_yL_hide : Cond.codeWith yL_hide cL_hide 4 (some .int) [(0, 9, 12, 18)] ∈ aTs := aTs_3 204 (by decide +kernel) (by decide +kernel)
def fw_hide : Nat := 8
def ww_hide : Nat := 132
set_option maxHeartbeats 200000 in
set_option maxRecDepth 100000 in
theorem cw_hide (l : Launch) (hst : l.stackTraces = false) {x1 : Int32} {ι : iS} {res : Int32 × iS} (hM : w_hide x1 ι = some res) : aMw l yL_hide cL_hide 4 [(0, 9, 12, 18)] fw_hide ww_hide (fun ad => [.ref (ad 0), .int x1, .ref (ad 125)]) (aG ι) (some (.int res.1)) (aG res.2) := by
  refine aMw.of (by decide) (fun _ => Nat.le_of_ble_eq_true rfl) ?_
  intro p e s m args below meth c D dA ad adV A ls C hw hl htb
  have C : aX p m c cL_hide 4 s args aTs RL meth (some .int) := C
  have hx := C.1.1
  have hb := C.1.2.1
  have hl : lv_has ls 4 [(0, .ref (ad 0)), (1, .int x1), (2, .ref (ad 125))] := hl
  unfold w_hide at hM
  obtain ⟨r, hr, hM⟩ := h_b hM
  refine lv_aload_n hx hb dL_hide_0 rfl (lv_at hl 2 rfl) ?_
  refine lv_iconst (v := (0 : Int32)) hx hb dL_hide_1 (by decide) ?_
  refine lv_aload_n hx hb dL_hide_2 rfl (lv_at hl 0 rfl) ?_
  refine lv_iload_n hx hb dL_hide_3 rfl (lv_at hl 1 rfl) ?_
  cases r with
  | inl q =>
    obtain ⟨e9, ι1⟩ := q
    replace hM : (if e9 = 0 then some (1, ι1) else none) = some res := hM
    by_cases he0 : e9 = 0
    · replace hM := h_t he0 hM
      subst he0
      cases h_e hM
      have q9 := c_X6_hide l hst hr
      replace q9 : aMx l yX6_hide cX6_hide 2 (some .int) fx_X6_hide wx_X6_hide (fun ad => [.ref (ad 0), .int x1]) (aG ι) (.inl (aEx 0, aG ι1)) := q9
      rw [aEx0] at q9
      refine x_callC (σ' := aG ι1) (As := fun ad => [.int x1]) (rest := [.int (0 : Int32), .ref (ad 125)]) (ob := 0) (pre := []) (x := ⟨0, 9, 12, 18⟩) (suf := []) C hw q9 k_X6_hide wM_L_22 ⟨Nat.le_of_ble_eq_true rfl, Nat.le_of_ble_eq_true rfl⟩ rfl (by decide) rfl rfl rfl hl rfl (Nat.le_of_ble_eq_true rfl) dL_hide_4 ⟨Nat.le_of_ble_eq_true rfl, Nat.le_of_ble_eq_true rfl⟩ htb (fun z hz => absurd hz List.not_mem_nil) (by decide) (by decide) wK_L_18 (by simp [aXs]) (fun q8 H locs hw => ?_)
      refine lv_astore_n (lv' := [(3, .ref q8), (0, .ref (ad 0)), (1, .int x1), (2, .ref (ad 125))]) hx hb dL_hide_12 rfl hl (by decide) rfl (fun ls hl => ?_)
      refine lv_iconst (v := 1) hx hb dL_hide_13 (by decide) ?_
      exact w_iret C hw (by decide) (by decide) dL_hide_14
    · replace hM := h_f he0 hM
      cases hM
  | inr q =>
    replace hM : some (0, pJ q.2 125 0 q.1.toInt64) = some res := hM
    have q9 := c_X6_hide l hst hr
    refine x_callN (σ' := aG q.2) (v := (some (.int q.1))) (As := fun ad => [.int x1]) (rest := [.int (0 : Int32), .ref (ad 125)]) (ob := 0) C hw q9 k_X6_hide wM_L_22 ⟨Nat.le_of_ble_eq_true rfl, Nat.le_of_ble_eq_true rfl⟩ rfl (by decide) rfl rfl rfl hl rfl (Nat.le_of_ble_eq_true rfl) dL_hide_4 ⟨Nat.zero_le _, Nat.zero_le _⟩ (fun H locs hw => ?_)
    refine lv_i2l hx hb dL_hide_7 rfl ?_
    refine a_last (σ := aG q.2) (o := 125) C hw rfl (aIn_v (by decide)) (show (0 : Int32).toNatClampNeg = 0 by decide) dL_hide_8 (fun H locs hw => ?_)
    have hw : aW D dA ad adV (aG (pJ q.2 125 0 q.1.toInt64)) A s H locs := by rw [aG_PJ] at hw; exact hw
    refine lv_goto (tgt := 15) hx hb dL_hide_9 (by decide) ?_
    refine lv_iconst (v := 0) hx hb dL_hide_15 (by decide) ?_
    cases h_e hM
    exact w_iret C hw (by decide) (by decide) dL_hide_16
theorem wW_yL_change : Cond.codeWith yL_change cL_change 5 (some .int) [(0, 10, 13, 13)] ∈ aTs := aTs_3 220 (by decide +kernel) (by decide +kernel)
def fw_change : Nat := 8
def ww_change : Nat := 136
set_option maxHeartbeats 200000 in
set_option maxRecDepth 100000 in
theorem cw_change (l : Launch) (hst : l.stackTraces = false) {x1 : Int32} {x2 : Int32} {ι : iS} {res : Int32 × iS} (hM : w_change x1 x2 ι = some res) : aMw l yL_change cL_change 5 [(0, 10, 13, 13)] fw_change ww_change (fun ad => [.ref (ad 0), .int x1, .int x2, .ref (ad 125)]) (aG ι) (some (.int res.1)) (aG res.2) := by
  refine aMw.of (by decide) (fun _ => Nat.le_of_ble_eq_true rfl) ?_
  intro p e s m args below meth c D dA ad adV A ls C hw hl htb
  have C : aX p m c cL_change 5 s args aTs RL meth (some .int) := C
  have hx := C.1.1
  have hb := C.1.2.1
  have hl : lv_has ls 5 [(0, .ref (ad 0)), (1, .int x1), (2, .int x2), (3, .ref (ad 125))] := hl
  unfold w_change at hM
  obtain ⟨r, hr, hM⟩ := h_b hM
  refine lv_aload_n hx hb dL_change_0 rfl (lv_at hl 3 rfl) ?_
  refine lv_iconst (v := (0 : Int32)) hx hb dL_change_1 (by decide) ?_
  refine lv_aload_n hx hb dL_change_2 rfl (lv_at hl 0 rfl) ?_
  refine lv_iload_n hx hb dL_change_3 rfl (lv_at hl 1 rfl) ?_
  refine lv_iload_n hx hb dL_change_4 rfl (lv_at hl 2 rfl) ?_
  cases r with
  | inl q =>
    obtain ⟨e9, ι1⟩ := q
    replace hM : (if e9 = 1 then some (1, ι1) else none) = some res := hM
    by_cases he0 : e9 = 1
    · replace hM := h_t he0 hM
      subst he0
      cases h_e hM
      have q9 := c_X6_change l hst hr
      replace q9 : aMx l yX6_change cX6_change 4 (some .int) fx_X6_change wx_X6_change (fun ad => [.ref (ad 0), .int x1, .int x2]) (aG ι) (.inl (aEx 1, aG ι1)) := q9
      rw [aEx1] at q9
      refine x_callC (σ' := aG ι1) (As := fun ad => [.int x1, .int x2]) (rest := [.int (0 : Int32), .ref (ad 125)]) (ob := 0) (pre := []) (x := ⟨0, 10, 13, 13⟩) (suf := []) C hw q9 k_X6_change wM_L_25 ⟨Nat.le_of_ble_eq_true rfl, Nat.le_of_ble_eq_true rfl⟩ rfl (by decide) rfl rfl rfl hl rfl (Nat.le_of_ble_eq_true rfl) dL_change_5 ⟨Nat.le_of_ble_eq_true rfl, Nat.le_of_ble_eq_true rfl⟩ htb (fun z hz => absurd hz List.not_mem_nil) (by decide) (by decide) wK_L_13 (by simp [aXs]) (fun q8 H locs hw => ?_)
      refine lv_astore (lv' := [(4, .ref q8), (0, .ref (ad 0)), (1, .int x1), (2, .int x2), (3, .ref (ad 125))]) hx hb dL_change_13 hl (by decide) rfl (fun ls hl => ?_)
      refine lv_iconst (v := 1) hx hb dL_change_15 (by decide) ?_
      exact w_iret C hw (by decide) (by decide) dL_change_16
    · replace hM := h_f he0 hM
      cases hM
  | inr q =>
    replace hM : some (0, pJ q.2 125 0 q.1.toInt64) = some res := hM
    have q9 := c_X6_change l hst hr
    refine x_callN (σ' := aG q.2) (v := (some (.int q.1))) (As := fun ad => [.int x1, .int x2]) (rest := [.int (0 : Int32), .ref (ad 125)]) (ob := 0) C hw q9 k_X6_change wM_L_25 ⟨Nat.le_of_ble_eq_true rfl, Nat.le_of_ble_eq_true rfl⟩ rfl (by decide) rfl rfl rfl hl rfl (Nat.le_of_ble_eq_true rfl) dL_change_5 ⟨Nat.zero_le _, Nat.zero_le _⟩ (fun H locs hw => ?_)
    refine lv_i2l hx hb dL_change_8 rfl ?_
    refine a_last (σ := aG q.2) (o := 125) C hw rfl (aIn_v (by decide)) (show (0 : Int32).toNatClampNeg = 0 by decide) dL_change_9 (fun H locs hw => ?_)
    have hw : aW D dA ad adV (aG (pJ q.2 125 0 q.1.toInt64)) A s H locs := by rw [aG_PJ] at hw; exact hw
    refine lv_goto (tgt := 17) hx hb dL_change_10 (by decide) ?_
    refine lv_iconst (v := 0) hx hb dL_change_17 (by decide) ?_
    cases h_e hM
    exact w_iret C hw (by decide) (by decide) dL_change_18
theorem wW_yL_mock : Cond.codeWith yL_mock cL_mock 4 (some .int) [(0, 9, 12, 18), (0, 9, 15, 20)] ∈ aTs := aTs_3 229 (by decide +kernel) (by decide +kernel)
def fw_mock : Nat := 8
def ww_mock : Nat := 132
set_option maxHeartbeats 200000 in
set_option maxRecDepth 100000 in
theorem cw_mock (l : Launch) (hst : l.stackTraces = false) {x1 : Int32} {ι : iS} {res : Int32 × iS} (hM : w_mock x1 ι = some res) : aMw l yL_mock cL_mock 4 [(0, 9, 12, 18), (0, 9, 15, 20)] fw_mock ww_mock (fun ad => [.ref (ad 0), .int x1, .ref (ad 125)]) (aG ι) (some (.int res.1)) (aG res.2) := by
  refine aMw.of (by decide) (fun _ => Nat.le_of_ble_eq_true rfl) ?_
  intro p e s m args below meth c D dA ad adV A ls C hw hl htb
  have C : aX p m c cL_mock 4 s args aTs RL meth (some .int) := C
  have hx := C.1.1
  have hb := C.1.2.1
  have hl : lv_has ls 4 [(0, .ref (ad 0)), (1, .int x1), (2, .ref (ad 125))] := hl
  unfold w_mock at hM
  obtain ⟨r, hr, hM⟩ := h_b hM
  refine lv_aload_n hx hb dL_mock_0 rfl (lv_at hl 2 rfl) ?_
  refine lv_iconst (v := (0 : Int32)) hx hb dL_mock_1 (by decide) ?_
  refine lv_aload_n hx hb dL_mock_2 rfl (lv_at hl 0 rfl) ?_
  refine lv_iload_n hx hb dL_mock_3 rfl (lv_at hl 1 rfl) ?_
  cases r with
  | inl q =>
    obtain ⟨e9, ι1⟩ := q
    replace hM : (if e9 = 0 then some (1, ι1) else if e9 = 2 then some (2, ι1) else none) = some res := hM
    by_cases he0 : e9 = 0
    · replace hM := h_t he0 hM
      subst he0
      cases h_e hM
      have q9 := c_X6_mock l hst hr
      replace q9 : aMx l yX6_mock cX6_mock 2 (some .int) fx_X6_mock wx_X6_mock (fun ad => [.ref (ad 0), .int x1]) (aG ι) (.inl (aEx 0, aG ι1)) := q9
      rw [aEx0] at q9
      refine x_callC (σ' := aG ι1) (As := fun ad => [.int x1]) (rest := [.int (0 : Int32), .ref (ad 125)]) (ob := 0) (pre := []) (x := ⟨0, 9, 12, 18⟩) (suf := [⟨0, 9, 15, 20⟩]) C hw q9 k_X6_mock wM_L_29 ⟨Nat.le_of_ble_eq_true rfl, Nat.le_of_ble_eq_true rfl⟩ rfl (by decide) rfl rfl rfl hl rfl (Nat.le_of_ble_eq_true rfl) dL_mock_4 ⟨Nat.le_of_ble_eq_true rfl, Nat.le_of_ble_eq_true rfl⟩ htb (fun z hz => absurd hz List.not_mem_nil) (by decide) (by decide) wK_L_18 (by simp [aXs]) (fun q8 H locs hw => ?_)
      refine lv_astore_n (lv' := [(3, .ref q8), (0, .ref (ad 0)), (1, .int x1), (2, .ref (ad 125))]) hx hb dL_mock_12 rfl hl (by decide) rfl (fun ls hl => ?_)
      refine lv_iconst (v := 1) hx hb dL_mock_13 (by decide) ?_
      exact w_iret C hw (by decide) (by decide) dL_mock_14
    · replace hM := h_f he0 hM
      by_cases he1 : e9 = 2
      · replace hM := h_t he1 hM
        subst he1
        cases h_e hM
        have q9 := c_X6_mock l hst hr
        replace q9 : aMx l yX6_mock cX6_mock 2 (some .int) fx_X6_mock wx_X6_mock (fun ad => [.ref (ad 0), .int x1]) (aG ι) (.inl (aEx 2, aG ι1)) := q9
        rw [aEx2] at q9
        refine x_callC (σ' := aG ι1) (As := fun ad => [.int x1]) (rest := [.int (0 : Int32), .ref (ad 125)]) (ob := 0) (pre := [⟨0, 9, 12, 18⟩]) (x := ⟨0, 9, 15, 20⟩) (suf := []) C hw q9 k_X6_mock wM_L_29 ⟨Nat.le_of_ble_eq_true rfl, Nat.le_of_ble_eq_true rfl⟩ rfl (by decide) rfl rfl rfl hl rfl (Nat.le_of_ble_eq_true rfl) dL_mock_4 ⟨Nat.le_of_ble_eq_true rfl, Nat.le_of_ble_eq_true rfl⟩ htb (fun z hz => by cases List.mem_singleton.mp hz; exact Or.inr ⟨by decide, "java/util/NoSuchElementException", wK_L_18, by simp [aNcs]⟩) (by decide) (by decide) wK_L_20 (by simp [aXs]) (fun q8 H locs hw => ?_)
        refine lv_astore_n (lv' := [(3, .ref q8), (0, .ref (ad 0)), (1, .int x1), (2, .ref (ad 125))]) hx hb dL_mock_15 rfl hl (by decide) rfl (fun ls hl => ?_)
        refine lv_iconst (v := 2) hx hb dL_mock_16 (by decide) ?_
        exact w_iret C hw (by decide) (by decide) dL_mock_17
      · replace hM := h_f he1 hM
        cases hM
  | inr q =>
    replace hM : some (0, pJ q.2 125 0 q.1.toInt64) = some res := hM
    have q9 := c_X6_mock l hst hr
    refine x_callN (σ' := aG q.2) (v := (some (.int q.1))) (As := fun ad => [.int x1]) (rest := [.int (0 : Int32), .ref (ad 125)]) (ob := 0) C hw q9 k_X6_mock wM_L_29 ⟨Nat.le_of_ble_eq_true rfl, Nat.le_of_ble_eq_true rfl⟩ rfl (by decide) rfl rfl rfl hl rfl (Nat.le_of_ble_eq_true rfl) dL_mock_4 ⟨Nat.zero_le _, Nat.zero_le _⟩ (fun H locs hw => ?_)
    refine lv_i2l hx hb dL_mock_7 rfl ?_
    refine a_last (σ := aG q.2) (o := 125) C hw rfl (aIn_v (by decide)) (show (0 : Int32).toNatClampNeg = 0 by decide) dL_mock_8 (fun H locs hw => ?_)
    have hw : aW D dA ad adV (aG (pJ q.2 125 0 q.1.toInt64)) A s H locs := by rw [aG_PJ] at hw; exact hw
    refine lv_goto (tgt := 18) hx hb dL_mock_9 (by decide) ?_
    refine lv_iconst (v := 0) hx hb dL_mock_18 (by decide) ?_
    cases h_e hM
    exact w_iret C hw (by decide) (by decide) dL_mock_19
theorem wW_yL_told : Cond.codeWith yL_told cL_told 4 (some .int) [(0, 9, 12, 13)] ∈ aTs := aTs_3 236 (by decide +kernel) (by decide +kernel)
def fw_told : Nat := 8
def ww_told : Nat := 134
set_option maxHeartbeats 200000 in
set_option maxRecDepth 100000 in
theorem cw_told (l : Launch) (hst : l.stackTraces = false) {x1 : Int32} {ι : iS} {res : Int32 × iS} (hM : w_told x1 ι = some res) : aMw l yL_told cL_told 4 [(0, 9, 12, 13)] fw_told ww_told (fun ad => [.ref (ad 0), .int x1, .ref (ad 125)]) (aG ι) (some (.int res.1)) (aG res.2) := by
  refine aMw.of (by decide) (fun _ => Nat.le_of_ble_eq_true rfl) ?_
  intro p e s m args below meth c D dA ad adV A ls C hw hl htb
  have C : aX p m c cL_told 4 s args aTs RL meth (some .int) := C
  have hx := C.1.1
  have hb := C.1.2.1
  have hl : lv_has ls 4 [(0, .ref (ad 0)), (1, .int x1), (2, .ref (ad 125))] := hl
  unfold w_told at hM
  obtain ⟨r, hr, hM⟩ := h_b hM
  refine lv_aload_n hx hb dL_told_0 rfl (lv_at hl 2 rfl) ?_
  refine lv_iconst (v := (0 : Int32)) hx hb dL_told_1 (by decide) ?_
  refine lv_aload_n hx hb dL_told_2 rfl (lv_at hl 0 rfl) ?_
  refine lv_iload_n hx hb dL_told_3 rfl (lv_at hl 1 rfl) ?_
  cases r with
  | inl q =>
    obtain ⟨e9, ι1⟩ := q
    replace hM : (if e9 = 1 then some (1, ι1) else none) = some res := hM
    by_cases he0 : e9 = 1
    · replace hM := h_t he0 hM
      subst he0
      cases h_e hM
      have q9 := c_X6_told l hst hr
      replace q9 : aMx l yX6_told cX6_told 2 (some .int) fx_X6_told wx_X6_told (fun ad => [.ref (ad 0), .int x1]) (aG ι) (.inl (aEx 1, aG ι1)) := q9
      rw [aEx1] at q9
      refine x_callC (σ' := aG ι1) (As := fun ad => [.int x1]) (rest := [.int (0 : Int32), .ref (ad 125)]) (ob := 0) (pre := []) (x := ⟨0, 9, 12, 13⟩) (suf := []) C hw q9 k_X6_told wM_L_32 ⟨Nat.le_of_ble_eq_true rfl, Nat.le_of_ble_eq_true rfl⟩ rfl (by decide) rfl rfl rfl hl rfl (Nat.le_of_ble_eq_true rfl) dL_told_4 ⟨Nat.le_of_ble_eq_true rfl, Nat.le_of_ble_eq_true rfl⟩ htb (fun z hz => absurd hz List.not_mem_nil) (by decide) (by decide) wK_L_13 (by simp [aXs]) (fun q8 H locs hw => ?_)
      refine lv_astore_n (lv' := [(3, .ref q8), (0, .ref (ad 0)), (1, .int x1), (2, .ref (ad 125))]) hx hb dL_told_12 rfl hl (by decide) rfl (fun ls hl => ?_)
      refine lv_iconst (v := 1) hx hb dL_told_13 (by decide) ?_
      exact w_iret C hw (by decide) (by decide) dL_told_14
    · replace hM := h_f he0 hM
      cases hM
  | inr q =>
    replace hM : some (0, pJ q.2 125 0 q.1.toInt64) = some res := hM
    have q9 := c_X6_told l hst hr
    refine x_callN (σ' := aG q.2) (v := (some (.int q.1))) (As := fun ad => [.int x1]) (rest := [.int (0 : Int32), .ref (ad 125)]) (ob := 0) C hw q9 k_X6_told wM_L_32 ⟨Nat.le_of_ble_eq_true rfl, Nat.le_of_ble_eq_true rfl⟩ rfl (by decide) rfl rfl rfl hl rfl (Nat.le_of_ble_eq_true rfl) dL_told_4 ⟨Nat.zero_le _, Nat.zero_le _⟩ (fun H locs hw => ?_)
    refine lv_i2l hx hb dL_told_7 rfl ?_
    refine a_last (σ := aG q.2) (o := 125) C hw rfl (aIn_v (by decide)) (show (0 : Int32).toNatClampNeg = 0 by decide) dL_told_8 (fun H locs hw => ?_)
    have hw : aW D dA ad adV (aG (pJ q.2 125 0 q.1.toInt64)) A s H locs := by rw [aG_PJ] at hw; exact hw
    refine lv_goto (tgt := 15) hx hb dL_told_9 (by decide) ?_
    refine lv_iconst (v := 0) hx hb dL_told_15 (by decide) ?_
    cases h_e hM
    exact w_iret C hw (by decide) (by decide) dL_told_16
theorem wW_yL_trait : Cond.codeWith yL_trait cL_trait 5 (some .int) [(0, 10, 13, 18), (0, 10, 17, 13)] ∈ aTs := aTs_4 7 (by decide +kernel) (by decide +kernel)
def fw_trait : Nat := 8
def ww_trait : Nat := 135
set_option maxHeartbeats 200000 in
set_option maxRecDepth 100000 in
theorem cw_trait (l : Launch) (hst : l.stackTraces = false) {x1 : Int32} {x2 : Int32} {ι : iS} {res : Int32 × iS} (hM : w_trait x1 x2 ι = some res) : aMw l yL_trait cL_trait 5 [(0, 10, 13, 18), (0, 10, 17, 13)] fw_trait ww_trait (fun ad => [.ref (ad 0), .int x1, .int x2, .ref (ad 125)]) (aG ι) (some (.int res.1)) (aG res.2) := by
  refine aMw.of (by decide) (fun _ => Nat.le_of_ble_eq_true rfl) ?_
  intro p e s m args below meth c D dA ad adV A ls C hw hl htb
  have C : aX p m c cL_trait 5 s args aTs RL meth (some .int) := C
  have hx := C.1.1
  have hb := C.1.2.1
  have hl : lv_has ls 5 [(0, .ref (ad 0)), (1, .int x1), (2, .int x2), (3, .ref (ad 125))] := hl
  unfold w_trait at hM
  obtain ⟨r, hr, hM⟩ := h_b hM
  refine lv_aload_n hx hb dL_trait_0 rfl (lv_at hl 3 rfl) ?_
  refine lv_iconst (v := (0 : Int32)) hx hb dL_trait_1 (by decide) ?_
  refine lv_aload_n hx hb dL_trait_2 rfl (lv_at hl 0 rfl) ?_
  refine lv_iload_n hx hb dL_trait_3 rfl (lv_at hl 1 rfl) ?_
  refine lv_iload_n hx hb dL_trait_4 rfl (lv_at hl 2 rfl) ?_
  cases r with
  | inl q =>
    obtain ⟨e9, ι1⟩ := q
    replace hM : (if e9 = 0 then some (1, ι1) else if e9 = 1 then some (2, ι1) else none) = some res := hM
    by_cases he0 : e9 = 0
    · replace hM := h_t he0 hM
      subst he0
      cases h_e hM
      have q9 := c_X6_trait l hst hr
      replace q9 : aMx l yX6_trait cX6_trait 3 (some .int) fx_X6_trait wx_X6_trait (fun ad => [.ref (ad 0), .int x1, .int x2]) (aG ι) (.inl (aEx 0, aG ι1)) := q9
      rw [aEx0] at q9
      refine x_callC (σ' := aG ι1) (As := fun ad => [.int x1, .int x2]) (rest := [.int (0 : Int32), .ref (ad 125)]) (ob := 0) (pre := []) (x := ⟨0, 10, 13, 18⟩) (suf := [⟨0, 10, 17, 13⟩]) C hw q9 k_X6_trait wM_L_35 ⟨Nat.le_of_ble_eq_true rfl, Nat.le_of_ble_eq_true rfl⟩ rfl (by decide) rfl rfl rfl hl rfl (Nat.le_of_ble_eq_true rfl) dL_trait_5 ⟨Nat.le_of_ble_eq_true rfl, Nat.le_of_ble_eq_true rfl⟩ htb (fun z hz => absurd hz List.not_mem_nil) (by decide) (by decide) wK_L_18 (by simp [aXs]) (fun q8 H locs hw => ?_)
      refine lv_astore (lv' := [(4, .ref q8), (0, .ref (ad 0)), (1, .int x1), (2, .int x2), (3, .ref (ad 125))]) hx hb dL_trait_13 hl (by decide) rfl (fun ls hl => ?_)
      refine lv_iconst (v := 1) hx hb dL_trait_15 (by decide) ?_
      exact w_iret C hw (by decide) (by decide) dL_trait_16
    · replace hM := h_f he0 hM
      by_cases he1 : e9 = 1
      · replace hM := h_t he1 hM
        subst he1
        cases h_e hM
        have q9 := c_X6_trait l hst hr
        replace q9 : aMx l yX6_trait cX6_trait 3 (some .int) fx_X6_trait wx_X6_trait (fun ad => [.ref (ad 0), .int x1, .int x2]) (aG ι) (.inl (aEx 1, aG ι1)) := q9
        rw [aEx1] at q9
        refine x_callC (σ' := aG ι1) (As := fun ad => [.int x1, .int x2]) (rest := [.int (0 : Int32), .ref (ad 125)]) (ob := 0) (pre := [⟨0, 10, 13, 18⟩]) (x := ⟨0, 10, 17, 13⟩) (suf := []) C hw q9 k_X6_trait wM_L_35 ⟨Nat.le_of_ble_eq_true rfl, Nat.le_of_ble_eq_true rfl⟩ rfl (by decide) rfl rfl rfl hl rfl (Nat.le_of_ble_eq_true rfl) dL_trait_5 ⟨Nat.le_of_ble_eq_true rfl, Nat.le_of_ble_eq_true rfl⟩ htb (fun z hz => by cases List.mem_singleton.mp hz; exact Or.inr ⟨by decide, "java/util/NoSuchElementException", wK_L_18, by simp [aNcs]⟩) (by decide) (by decide) wK_L_13 (by simp [aXs]) (fun q8 H locs hw => ?_)
        refine lv_astore (lv' := [(4, .ref q8), (0, .ref (ad 0)), (1, .int x1), (2, .int x2), (3, .ref (ad 125))]) hx hb dL_trait_17 hl (by decide) rfl (fun ls hl => ?_)
        refine lv_iconst (v := 2) hx hb dL_trait_19 (by decide) ?_
        exact w_iret C hw (by decide) (by decide) dL_trait_20
      · replace hM := h_f he1 hM
        cases hM
  | inr q =>
    replace hM : some (0, pJ q.2 125 0 q.1.toInt64) = some res := hM
    have q9 := c_X6_trait l hst hr
    refine x_callN (σ' := aG q.2) (v := (some (.int q.1))) (As := fun ad => [.int x1, .int x2]) (rest := [.int (0 : Int32), .ref (ad 125)]) (ob := 0) C hw q9 k_X6_trait wM_L_35 ⟨Nat.le_of_ble_eq_true rfl, Nat.le_of_ble_eq_true rfl⟩ rfl (by decide) rfl rfl rfl hl rfl (Nat.le_of_ble_eq_true rfl) dL_trait_5 ⟨Nat.zero_le _, Nat.zero_le _⟩ (fun H locs hw => ?_)
    refine lv_i2l hx hb dL_trait_8 rfl ?_
    refine a_last (σ := aG q.2) (o := 125) C hw rfl (aIn_v (by decide)) (show (0 : Int32).toNatClampNeg = 0 by decide) dL_trait_9 (fun H locs hw => ?_)
    have hw : aW D dA ad adV (aG (pJ q.2 125 0 q.1.toInt64)) A s H locs := by rw [aG_PJ] at hw; exact hw
    refine lv_goto (tgt := 21) hx hb dL_trait_10 (by decide) ?_
    refine lv_iconst (v := 0) hx hb dL_trait_21 (by decide) ?_
    cases h_e hM
    exact w_iret C hw (by decide) (by decide) dL_trait_22
theorem wW_yL_value : Cond.codeWith yL_value cL_value 5 (some .int) [(0, 10, 13, 18)] ∈ aTs := aTs_4 19 (by decide +kernel) (by decide +kernel)
def fw_value : Nat := 8
def ww_value : Nat := 133
set_option maxHeartbeats 200000 in
set_option maxRecDepth 100000 in
theorem cw_value (l : Launch) (hst : l.stackTraces = false) {x1 : Int32} {x2 : Int32} {ι : iS} {res : Int32 × iS} (hM : w_value x1 x2 ι = some res) : aMw l yL_value cL_value 5 [(0, 10, 13, 18)] fw_value ww_value (fun ad => [.ref (ad 0), .int x1, .int x2, .ref (ad 125)]) (aG ι) (some (.int res.1)) (aG res.2) := by
  refine aMw.of (by decide) (fun _ => Nat.le_of_ble_eq_true rfl) ?_
  intro p e s m args below meth c D dA ad adV A ls C hw hl htb
  have C : aX p m c cL_value 5 s args aTs RL meth (some .int) := C
  have hx := C.1.1
  have hb := C.1.2.1
  have hl : lv_has ls 5 [(0, .ref (ad 0)), (1, .int x1), (2, .int x2), (3, .ref (ad 125))] := hl
  unfold w_value at hM
  obtain ⟨r, hr, hM⟩ := h_b hM
  refine lv_aload_n hx hb dL_value_0 rfl (lv_at hl 3 rfl) ?_
  refine lv_iconst (v := (0 : Int32)) hx hb dL_value_1 (by decide) ?_
  refine lv_aload_n hx hb dL_value_2 rfl (lv_at hl 0 rfl) ?_
  refine lv_iload_n hx hb dL_value_3 rfl (lv_at hl 1 rfl) ?_
  refine lv_iload_n hx hb dL_value_4 rfl (lv_at hl 2 rfl) ?_
  cases r with
  | inl q =>
    obtain ⟨e9, ι1⟩ := q
    replace hM : (if e9 = 0 then some (1, ι1) else none) = some res := hM
    by_cases he0 : e9 = 0
    · replace hM := h_t he0 hM
      subst he0
      cases h_e hM
      have q9 := c_X6_value l hst hr
      replace q9 : aMx l yX6_value cX6_value 3 (some .int) fx_X6_value wx_X6_value (fun ad => [.ref (ad 0), .int x1, .int x2]) (aG ι) (.inl (aEx 0, aG ι1)) := q9
      rw [aEx0] at q9
      refine x_callC (σ' := aG ι1) (As := fun ad => [.int x1, .int x2]) (rest := [.int (0 : Int32), .ref (ad 125)]) (ob := 0) (pre := []) (x := ⟨0, 10, 13, 18⟩) (suf := []) C hw q9 k_X6_value wM_L_38 ⟨Nat.le_of_ble_eq_true rfl, Nat.le_of_ble_eq_true rfl⟩ rfl (by decide) rfl rfl rfl hl rfl (Nat.le_of_ble_eq_true rfl) dL_value_5 ⟨Nat.le_of_ble_eq_true rfl, Nat.le_of_ble_eq_true rfl⟩ htb (fun z hz => absurd hz List.not_mem_nil) (by decide) (by decide) wK_L_18 (by simp [aXs]) (fun q8 H locs hw => ?_)
      refine lv_astore (lv' := [(4, .ref q8), (0, .ref (ad 0)), (1, .int x1), (2, .int x2), (3, .ref (ad 125))]) hx hb dL_value_13 hl (by decide) rfl (fun ls hl => ?_)
      refine lv_iconst (v := 1) hx hb dL_value_15 (by decide) ?_
      exact w_iret C hw (by decide) (by decide) dL_value_16
    · replace hM := h_f he0 hM
      cases hM
  | inr q =>
    replace hM : some (0, pJ q.2 125 0 q.1.toInt64) = some res := hM
    have q9 := c_X6_value l hst hr
    refine x_callN (σ' := aG q.2) (v := (some (.int q.1))) (As := fun ad => [.int x1, .int x2]) (rest := [.int (0 : Int32), .ref (ad 125)]) (ob := 0) C hw q9 k_X6_value wM_L_38 ⟨Nat.le_of_ble_eq_true rfl, Nat.le_of_ble_eq_true rfl⟩ rfl (by decide) rfl rfl rfl hl rfl (Nat.le_of_ble_eq_true rfl) dL_value_5 ⟨Nat.zero_le _, Nat.zero_le _⟩ (fun H locs hw => ?_)
    refine lv_i2l hx hb dL_value_8 rfl ?_
    refine a_last (σ := aG q.2) (o := 125) C hw rfl (aIn_v (by decide)) (show (0 : Int32).toNatClampNeg = 0 by decide) dL_value_9 (fun H locs hw => ?_)
    have hw : aW D dA ad adV (aG (pJ q.2 125 0 q.1.toInt64)) A s H locs := by rw [aG_PJ] at hw; exact hw
    refine lv_goto (tgt := 17) hx hb dL_value_10 (by decide) ?_
    refine lv_iconst (v := 0) hx hb dL_value_17 (by decide) ?_
    cases h_e hM
    exact w_iret C hw (by decide) (by decide) dL_value_18
theorem wW_yL_shown : Cond.codeWith yL_shown cL_shown 4 (some .int) [(0, 9, 12, 18)] ∈ aTs := aTs_4 27 (by decide +kernel) (by decide +kernel)
def fw_shown : Nat := 8
def ww_shown : Nat := 132
set_option maxHeartbeats 200000 in
set_option maxRecDepth 100000 in
theorem cw_shown (l : Launch) (hst : l.stackTraces = false) {x1 : Int32} {ι : iS} {res : Int32 × iS} (hM : w_shown x1 ι = some res) : aMw l yL_shown cL_shown 4 [(0, 9, 12, 18)] fw_shown ww_shown (fun ad => [.ref (ad 0), .int x1, .ref (ad 125)]) (aG ι) (some (.int res.1)) (aG res.2) := by
  refine aMw.of (by decide) (fun _ => Nat.le_of_ble_eq_true rfl) ?_
  intro p e s m args below meth c D dA ad adV A ls C hw hl htb
  have C : aX p m c cL_shown 4 s args aTs RL meth (some .int) := C
  have hx := C.1.1
  have hb := C.1.2.1
  have hl : lv_has ls 4 [(0, .ref (ad 0)), (1, .int x1), (2, .ref (ad 125))] := hl
  unfold w_shown at hM
  obtain ⟨r, hr, hM⟩ := h_b hM
  refine lv_aload_n hx hb dL_shown_0 rfl (lv_at hl 2 rfl) ?_
  refine lv_iconst (v := (0 : Int32)) hx hb dL_shown_1 (by decide) ?_
  refine lv_aload_n hx hb dL_shown_2 rfl (lv_at hl 0 rfl) ?_
  refine lv_iload_n hx hb dL_shown_3 rfl (lv_at hl 1 rfl) ?_
  cases r with
  | inl q =>
    obtain ⟨e9, ι1⟩ := q
    replace hM : (if e9 = 0 then some (1, ι1) else none) = some res := hM
    by_cases he0 : e9 = 0
    · replace hM := h_t he0 hM
      subst he0
      cases h_e hM
      have q9 := c_X6_shown l hst hr
      replace q9 : aMx l yX6_shown cX6_shown 2 (some .int) fx_X6_shown wx_X6_shown (fun ad => [.ref (ad 0), .int x1]) (aG ι) (.inl (aEx 0, aG ι1)) := q9
      rw [aEx0] at q9
      refine x_callC (σ' := aG ι1) (As := fun ad => [.int x1]) (rest := [.int (0 : Int32), .ref (ad 125)]) (ob := 0) (pre := []) (x := ⟨0, 9, 12, 18⟩) (suf := []) C hw q9 k_X6_shown wM_L_41 ⟨Nat.le_of_ble_eq_true rfl, Nat.le_of_ble_eq_true rfl⟩ rfl (by decide) rfl rfl rfl hl rfl (Nat.le_of_ble_eq_true rfl) dL_shown_4 ⟨Nat.le_of_ble_eq_true rfl, Nat.le_of_ble_eq_true rfl⟩ htb (fun z hz => absurd hz List.not_mem_nil) (by decide) (by decide) wK_L_18 (by simp [aXs]) (fun q8 H locs hw => ?_)
      refine lv_astore_n (lv' := [(3, .ref q8), (0, .ref (ad 0)), (1, .int x1), (2, .ref (ad 125))]) hx hb dL_shown_12 rfl hl (by decide) rfl (fun ls hl => ?_)
      refine lv_iconst (v := 1) hx hb dL_shown_13 (by decide) ?_
      exact w_iret C hw (by decide) (by decide) dL_shown_14
    · replace hM := h_f he0 hM
      cases hM
  | inr q =>
    replace hM : some (0, pJ q.2 125 0 q.1.toInt64) = some res := hM
    have q9 := c_X6_shown l hst hr
    refine x_callN (σ' := aG q.2) (v := (some (.int q.1))) (As := fun ad => [.int x1]) (rest := [.int (0 : Int32), .ref (ad 125)]) (ob := 0) C hw q9 k_X6_shown wM_L_41 ⟨Nat.le_of_ble_eq_true rfl, Nat.le_of_ble_eq_true rfl⟩ rfl (by decide) rfl rfl rfl hl rfl (Nat.le_of_ble_eq_true rfl) dL_shown_4 ⟨Nat.zero_le _, Nat.zero_le _⟩ (fun H locs hw => ?_)
    refine lv_i2l hx hb dL_shown_7 rfl ?_
    refine a_last (σ := aG q.2) (o := 125) C hw rfl (aIn_v (by decide)) (show (0 : Int32).toNatClampNeg = 0 by decide) dL_shown_8 (fun H locs hw => ?_)
    have hw : aW D dA ad adV (aG (pJ q.2 125 0 q.1.toInt64)) A s H locs := by rw [aG_PJ] at hw; exact hw
    refine lv_goto (tgt := 15) hx hb dL_shown_9 (by decide) ?_
    refine lv_iconst (v := 0) hx hb dL_shown_15 (by decide) ?_
    cases h_e hM
    exact w_iret C hw (by decide) (by decide) dL_shown_16
theorem wW_yL_match : Cond.codeWith yL_match cL_match 5 (some .int) [(0, 10, 13, 18)] ∈ aTs := aTs_4 34 (by decide +kernel) (by decide +kernel)
def fw_match : Nat := 8
def ww_match : Nat := 133
set_option maxHeartbeats 200000 in
set_option maxRecDepth 100000 in
theorem cw_match (l : Launch) (hst : l.stackTraces = false) {x1 : Int32} {x2 : Int32} {ι : iS} {res : Int32 × iS} (hM : w_match x1 x2 ι = some res) : aMw l yL_match cL_match 5 [(0, 10, 13, 18)] fw_match ww_match (fun ad => [.ref (ad 0), .int x1, .int x2, .ref (ad 125)]) (aG ι) (some (.int res.1)) (aG res.2) := by
  refine aMw.of (by decide) (fun _ => Nat.le_of_ble_eq_true rfl) ?_
  intro p e s m args below meth c D dA ad adV A ls C hw hl htb
  have C : aX p m c cL_match 5 s args aTs RL meth (some .int) := C
  have hx := C.1.1
  have hb := C.1.2.1
  have hl : lv_has ls 5 [(0, .ref (ad 0)), (1, .int x1), (2, .int x2), (3, .ref (ad 125))] := hl
  unfold w_match at hM
  obtain ⟨r, hr, hM⟩ := h_b hM
  refine lv_aload_n hx hb dL_match_0 rfl (lv_at hl 3 rfl) ?_
  refine lv_iconst (v := (0 : Int32)) hx hb dL_match_1 (by decide) ?_
  refine lv_aload_n hx hb dL_match_2 rfl (lv_at hl 0 rfl) ?_
  refine lv_iload_n hx hb dL_match_3 rfl (lv_at hl 1 rfl) ?_
  refine lv_iload_n hx hb dL_match_4 rfl (lv_at hl 2 rfl) ?_
  cases r with
  | inl q =>
    obtain ⟨e9, ι1⟩ := q
    replace hM : (if e9 = 0 then some (1, ι1) else none) = some res := hM
    by_cases he0 : e9 = 0
    · replace hM := h_t he0 hM
      subst he0
      cases h_e hM
      have q9 := c_X6_match l hst hr
      replace q9 : aMx l yX6_match cX6_match 3 (some .int) fx_X6_match wx_X6_match (fun ad => [.ref (ad 0), .int x1, .int x2]) (aG ι) (.inl (aEx 0, aG ι1)) := q9
      rw [aEx0] at q9
      refine x_callC (σ' := aG ι1) (As := fun ad => [.int x1, .int x2]) (rest := [.int (0 : Int32), .ref (ad 125)]) (ob := 0) (pre := []) (x := ⟨0, 10, 13, 18⟩) (suf := []) C hw q9 k_X6_match wM_L_44 ⟨Nat.le_of_ble_eq_true rfl, Nat.le_of_ble_eq_true rfl⟩ rfl (by decide) rfl rfl rfl hl rfl (Nat.le_of_ble_eq_true rfl) dL_match_5 ⟨Nat.le_of_ble_eq_true rfl, Nat.le_of_ble_eq_true rfl⟩ htb (fun z hz => absurd hz List.not_mem_nil) (by decide) (by decide) wK_L_18 (by simp [aXs]) (fun q8 H locs hw => ?_)
      refine lv_astore (lv' := [(4, .ref q8), (0, .ref (ad 0)), (1, .int x1), (2, .int x2), (3, .ref (ad 125))]) hx hb dL_match_13 hl (by decide) rfl (fun ls hl => ?_)
      refine lv_iconst (v := 1) hx hb dL_match_15 (by decide) ?_
      exact w_iret C hw (by decide) (by decide) dL_match_16
    · replace hM := h_f he0 hM
      cases hM
  | inr q =>
    replace hM : some (0, pJ q.2 125 0 q.1.toInt64) = some res := hM
    have q9 := c_X6_match l hst hr
    refine x_callN (σ' := aG q.2) (v := (some (.int q.1))) (As := fun ad => [.int x1, .int x2]) (rest := [.int (0 : Int32), .ref (ad 125)]) (ob := 0) C hw q9 k_X6_match wM_L_44 ⟨Nat.le_of_ble_eq_true rfl, Nat.le_of_ble_eq_true rfl⟩ rfl (by decide) rfl rfl rfl hl rfl (Nat.le_of_ble_eq_true rfl) dL_match_5 ⟨Nat.zero_le _, Nat.zero_le _⟩ (fun H locs hw => ?_)
    refine lv_i2l hx hb dL_match_8 rfl ?_
    refine a_last (σ := aG q.2) (o := 125) C hw rfl (aIn_v (by decide)) (show (0 : Int32).toNatClampNeg = 0 by decide) dL_match_9 (fun H locs hw => ?_)
    have hw : aW D dA ad adV (aG (pJ q.2 125 0 q.1.toInt64)) A s H locs := by rw [aG_PJ] at hw; exact hw
    refine lv_goto (tgt := 17) hx hb dL_match_10 (by decide) ?_
    refine lv_iconst (v := 0) hx hb dL_match_17 (by decide) ?_
    cases h_e hM
    exact w_iret C hw (by decide) (by decide) dL_match_18
theorem wW_yL_mocks : Cond.codeWith yL_mocks cL_mocks 4 (some .int) [(0, 9, 12, 18)] ∈ aTs := aTs_4 45 (by decide +kernel) (by decide +kernel)
def fw_mocks : Nat := 8
def ww_mocks : Nat := 132
set_option maxHeartbeats 200000 in
set_option maxRecDepth 100000 in
theorem cw_mocks (l : Launch) (hst : l.stackTraces = false) {x1 : Int32} {ι : iS} {res : Int32 × iS} (hM : w_mocks x1 ι = some res) : aMw l yL_mocks cL_mocks 4 [(0, 9, 12, 18)] fw_mocks ww_mocks (fun ad => [.ref (ad 0), .int x1, .ref (ad 125)]) (aG ι) (some (.int res.1)) (aG res.2) := by
  refine aMw.of (by decide) (fun _ => Nat.le_of_ble_eq_true rfl) ?_
  intro p e s m args below meth c D dA ad adV A ls C hw hl htb
  have C : aX p m c cL_mocks 4 s args aTs RL meth (some .int) := C
  have hx := C.1.1
  have hb := C.1.2.1
  have hl : lv_has ls 4 [(0, .ref (ad 0)), (1, .int x1), (2, .ref (ad 125))] := hl
  unfold w_mocks at hM
  obtain ⟨r, hr, hM⟩ := h_b hM
  refine lv_aload_n hx hb dL_mocks_0 rfl (lv_at hl 2 rfl) ?_
  refine lv_iconst (v := (0 : Int32)) hx hb dL_mocks_1 (by decide) ?_
  refine lv_aload_n hx hb dL_mocks_2 rfl (lv_at hl 0 rfl) ?_
  refine lv_iload_n hx hb dL_mocks_3 rfl (lv_at hl 1 rfl) ?_
  cases r with
  | inl q =>
    obtain ⟨e9, ι1⟩ := q
    replace hM : (if e9 = 0 then some (1, ι1) else none) = some res := hM
    by_cases he0 : e9 = 0
    · replace hM := h_t he0 hM
      subst he0
      cases h_e hM
      have q9 := c_X6_mocks l hst hr
      replace q9 : aMx l yX6_mocks cX6_mocks 2 (some .int) fx_X6_mocks wx_X6_mocks (fun ad => [.ref (ad 0), .int x1]) (aG ι) (.inl (aEx 0, aG ι1)) := q9
      rw [aEx0] at q9
      refine x_callC (σ' := aG ι1) (As := fun ad => [.int x1]) (rest := [.int (0 : Int32), .ref (ad 125)]) (ob := 0) (pre := []) (x := ⟨0, 9, 12, 18⟩) (suf := []) C hw q9 k_X6_mocks wM_L_48 ⟨Nat.le_of_ble_eq_true rfl, Nat.le_of_ble_eq_true rfl⟩ rfl (by decide) rfl rfl rfl hl rfl (Nat.le_of_ble_eq_true rfl) dL_mocks_4 ⟨Nat.le_of_ble_eq_true rfl, Nat.le_of_ble_eq_true rfl⟩ htb (fun z hz => absurd hz List.not_mem_nil) (by decide) (by decide) wK_L_18 (by simp [aXs]) (fun q8 H locs hw => ?_)
      refine lv_astore_n (lv' := [(3, .ref q8), (0, .ref (ad 0)), (1, .int x1), (2, .ref (ad 125))]) hx hb dL_mocks_12 rfl hl (by decide) rfl (fun ls hl => ?_)
      refine lv_iconst (v := 1) hx hb dL_mocks_13 (by decide) ?_
      exact w_iret C hw (by decide) (by decide) dL_mocks_14
    · replace hM := h_f he0 hM
      cases hM
  | inr q =>
    replace hM : some (0, pJ q.2 125 0 q.1.toInt64) = some res := hM
    have q9 := c_X6_mocks l hst hr
    refine x_callN (σ' := aG q.2) (v := (some (.int q.1))) (As := fun ad => [.int x1]) (rest := [.int (0 : Int32), .ref (ad 125)]) (ob := 0) C hw q9 k_X6_mocks wM_L_48 ⟨Nat.le_of_ble_eq_true rfl, Nat.le_of_ble_eq_true rfl⟩ rfl (by decide) rfl rfl rfl hl rfl (Nat.le_of_ble_eq_true rfl) dL_mocks_4 ⟨Nat.zero_le _, Nat.zero_le _⟩ (fun H locs hw => ?_)
    refine lv_i2l hx hb dL_mocks_7 rfl ?_
    refine a_last (σ := aG q.2) (o := 125) C hw rfl (aIn_v (by decide)) (show (0 : Int32).toNatClampNeg = 0 by decide) dL_mocks_8 (fun H locs hw => ?_)
    have hw : aW D dA ad adV (aG (pJ q.2 125 0 q.1.toInt64)) A s H locs := by rw [aG_PJ] at hw; exact hw
    refine lv_goto (tgt := 15) hx hb dL_mocks_9 (by decide) ?_
    refine lv_iconst (v := 0) hx hb dL_mocks_15 (by decide) ?_
    cases h_e hM
    exact w_iret C hw (by decide) (by decide) dL_mocks_16
theorem wW_yL_alike : Cond.codeWith yL_alike cL_alike 5 (some .int) [(0, 10, 13, 18)] ∈ aTs := aTs_4 52 (by decide +kernel) (by decide +kernel)
def fw_alike : Nat := 8
def ww_alike : Nat := 135
set_option maxHeartbeats 200000 in
set_option maxRecDepth 100000 in
theorem cw_alike (l : Launch) (hst : l.stackTraces = false) {x1 : Int32} {x2 : Int32} {ι : iS} {res : Int32 × iS} (hM : w_alike x1 x2 ι = some res) : aMw l yL_alike cL_alike 5 [(0, 10, 13, 18)] fw_alike ww_alike (fun ad => [.ref (ad 0), .int x1, .int x2, .ref (ad 125)]) (aG ι) (some (.int res.1)) (aG res.2) := by
  refine aMw.of (by decide) (fun _ => Nat.le_of_ble_eq_true rfl) ?_
  intro p e s m args below meth c D dA ad adV A ls C hw hl htb
  have C : aX p m c cL_alike 5 s args aTs RL meth (some .int) := C
  have hx := C.1.1
  have hb := C.1.2.1
  have hl : lv_has ls 5 [(0, .ref (ad 0)), (1, .int x1), (2, .int x2), (3, .ref (ad 125))] := hl
  unfold w_alike at hM
  obtain ⟨r, hr, hM⟩ := h_b hM
  refine lv_aload_n hx hb dL_alike_0 rfl (lv_at hl 3 rfl) ?_
  refine lv_iconst (v := (0 : Int32)) hx hb dL_alike_1 (by decide) ?_
  refine lv_aload_n hx hb dL_alike_2 rfl (lv_at hl 0 rfl) ?_
  refine lv_iload_n hx hb dL_alike_3 rfl (lv_at hl 1 rfl) ?_
  refine lv_iload_n hx hb dL_alike_4 rfl (lv_at hl 2 rfl) ?_
  cases r with
  | inl q =>
    obtain ⟨e9, ι1⟩ := q
    replace hM : (if e9 = 0 then some (1, ι1) else none) = some res := hM
    by_cases he0 : e9 = 0
    · replace hM := h_t he0 hM
      subst he0
      cases h_e hM
      have q9 := c_X6_alike l hst hr
      replace q9 : aMx l yX6_alike cX6_alike 5 (some .int) fx_X6_alike wx_X6_alike (fun ad => [.ref (ad 0), .int x1, .int x2]) (aG ι) (.inl (aEx 0, aG ι1)) := q9
      rw [aEx0] at q9
      refine x_callC (σ' := aG ι1) (As := fun ad => [.int x1, .int x2]) (rest := [.int (0 : Int32), .ref (ad 125)]) (ob := 0) (pre := []) (x := ⟨0, 10, 13, 18⟩) (suf := []) C hw q9 k_X6_alike wM_L_51 ⟨Nat.le_of_ble_eq_true rfl, Nat.le_of_ble_eq_true rfl⟩ rfl (by decide) rfl rfl rfl hl rfl (Nat.le_of_ble_eq_true rfl) dL_alike_5 ⟨Nat.le_of_ble_eq_true rfl, Nat.le_of_ble_eq_true rfl⟩ htb (fun z hz => absurd hz List.not_mem_nil) (by decide) (by decide) wK_L_18 (by simp [aXs]) (fun q8 H locs hw => ?_)
      refine lv_astore (lv' := [(4, .ref q8), (0, .ref (ad 0)), (1, .int x1), (2, .int x2), (3, .ref (ad 125))]) hx hb dL_alike_13 hl (by decide) rfl (fun ls hl => ?_)
      refine lv_iconst (v := 1) hx hb dL_alike_15 (by decide) ?_
      exact w_iret C hw (by decide) (by decide) dL_alike_16
    · replace hM := h_f he0 hM
      cases hM
  | inr q =>
    replace hM : some (0, pJ q.2 125 0 q.1.toInt64) = some res := hM
    have q9 := c_X6_alike l hst hr
    refine x_callN (σ' := aG q.2) (v := (some (.int q.1))) (As := fun ad => [.int x1, .int x2]) (rest := [.int (0 : Int32), .ref (ad 125)]) (ob := 0) C hw q9 k_X6_alike wM_L_51 ⟨Nat.le_of_ble_eq_true rfl, Nat.le_of_ble_eq_true rfl⟩ rfl (by decide) rfl rfl rfl hl rfl (Nat.le_of_ble_eq_true rfl) dL_alike_5 ⟨Nat.zero_le _, Nat.zero_le _⟩ (fun H locs hw => ?_)
    refine lv_i2l hx hb dL_alike_8 rfl ?_
    refine a_last (σ := aG q.2) (o := 125) C hw rfl (aIn_v (by decide)) (show (0 : Int32).toNatClampNeg = 0 by decide) dL_alike_9 (fun H locs hw => ?_)
    have hw : aW D dA ad adV (aG (pJ q.2 125 0 q.1.toInt64)) A s H locs := by rw [aG_PJ] at hw; exact hw
    refine lv_goto (tgt := 17) hx hb dL_alike_10 (by decide) ?_
    refine lv_iconst (v := 0) hx hb dL_alike_17 (by decide) ?_
    cases h_e hM
    exact w_iret C hw (by decide) (by decide) dL_alike_18
theorem wW_yL_chance : Cond.codeWith yL_chance cL_chance 8 (some .int) [(0, 15, 18, 18), (0, 15, 22, 13)] ∈ aTs := aTs_4 59 (by decide +kernel) (by decide +kernel)
def fw_chance : Nat := 8
def ww_chance : Nat := 170
set_option maxHeartbeats 200000 in
set_option maxRecDepth 100000 in
theorem cw_chance (l : Launch) (hst : l.stackTraces = false) {x1 : Int32} {x2 : Int32} {x3 : Int32} {x4 : Int32} {x5 : Int32} {ι : iS} {res : Int32 × iS} (hM : w_chance x1 x2 x3 x4 x5 ι = some res) : aMw l yL_chance cL_chance 8 [(0, 15, 18, 18), (0, 15, 22, 13)] fw_chance ww_chance (fun ad => [.ref (ad 0), .int x1, .int x2, .int x3, .int x4, .int x5, .ref (ad 125)]) (aG ι) (some (.int res.1)) (aG res.2) := by
  refine aMw.of (by decide) (fun _ => Nat.le_of_ble_eq_true rfl) ?_
  intro p e s m args below meth c D dA ad adV A ls C hw hl htb
  have C : aX p m c cL_chance 8 s args aTs RL meth (some .int) := C
  have hx := C.1.1
  have hb := C.1.2.1
  have hl : lv_has ls 8 [(0, .ref (ad 0)), (1, .int x1), (2, .int x2), (3, .int x3), (4, .int x4), (5, .int x5), (6, .ref (ad 125))] := hl
  unfold w_chance at hM
  obtain ⟨r, hr, hM⟩ := h_b hM
  refine lv_aload hx hb dL_chance_0 (lv_at hl 6 rfl) ?_
  refine lv_iconst (v := (0 : Int32)) hx hb dL_chance_2 (by decide) ?_
  refine lv_aload_n hx hb dL_chance_3 rfl (lv_at hl 0 rfl) ?_
  refine lv_iload_n hx hb dL_chance_4 rfl (lv_at hl 1 rfl) ?_
  refine lv_iload_n hx hb dL_chance_5 rfl (lv_at hl 2 rfl) ?_
  refine lv_iload_n hx hb dL_chance_6 rfl (lv_at hl 3 rfl) ?_
  refine lv_iload hx hb dL_chance_7 (lv_at hl 4 rfl) ?_
  refine lv_iload hx hb dL_chance_9 (lv_at hl 5 rfl) ?_
  cases r with
  | inl q =>
    obtain ⟨e9, ι1⟩ := q
    replace hM : (if e9 = 0 then some (1, ι1) else if e9 = 1 then some (2, ι1) else none) = some res := hM
    by_cases he0 : e9 = 0
    · replace hM := h_t he0 hM
      subst he0
      cases h_e hM
      have q9 := c_X6_chance l hst hr
      replace q9 : aMx l yX6_chance cX6_chance 7 (some .long) fx_X6_chance wx_X6_chance (fun ad => [.ref (ad 0), .int x1, .int x2, .int x3, .int x4, .int x5]) (aG ι) (.inl (aEx 0, aG ι1)) := q9
      rw [aEx0] at q9
      refine x_callC (σ' := aG ι1) (As := fun ad => [.int x1, .int x2, .int x3, .int x4, .int x5]) (rest := [.int (0 : Int32), .ref (ad 125)]) (ob := 0) (pre := []) (x := ⟨0, 15, 18, 18⟩) (suf := [⟨0, 15, 22, 13⟩]) C hw q9 k_X6_chance wM_L_54 ⟨Nat.le_of_ble_eq_true rfl, Nat.le_of_ble_eq_true rfl⟩ rfl (by decide) rfl rfl rfl hl rfl (Nat.le_of_ble_eq_true rfl) dL_chance_11 ⟨Nat.le_of_ble_eq_true rfl, Nat.le_of_ble_eq_true rfl⟩ htb (fun z hz => absurd hz List.not_mem_nil) (by decide) (by decide) wK_L_18 (by simp [aXs]) (fun q8 H locs hw => ?_)
      refine lv_astore (lv' := [(7, .ref q8), (0, .ref (ad 0)), (1, .int x1), (2, .int x2), (3, .int x3), (4, .int x4), (5, .int x5), (6, .ref (ad 125))]) hx hb dL_chance_18 hl (by decide) rfl (fun ls hl => ?_)
      refine lv_iconst (v := 1) hx hb dL_chance_20 (by decide) ?_
      exact w_iret C hw (by decide) (by decide) dL_chance_21
    · replace hM := h_f he0 hM
      by_cases he1 : e9 = 1
      · replace hM := h_t he1 hM
        subst he1
        cases h_e hM
        have q9 := c_X6_chance l hst hr
        replace q9 : aMx l yX6_chance cX6_chance 7 (some .long) fx_X6_chance wx_X6_chance (fun ad => [.ref (ad 0), .int x1, .int x2, .int x3, .int x4, .int x5]) (aG ι) (.inl (aEx 1, aG ι1)) := q9
        rw [aEx1] at q9
        refine x_callC (σ' := aG ι1) (As := fun ad => [.int x1, .int x2, .int x3, .int x4, .int x5]) (rest := [.int (0 : Int32), .ref (ad 125)]) (ob := 0) (pre := [⟨0, 15, 18, 18⟩]) (x := ⟨0, 15, 22, 13⟩) (suf := []) C hw q9 k_X6_chance wM_L_54 ⟨Nat.le_of_ble_eq_true rfl, Nat.le_of_ble_eq_true rfl⟩ rfl (by decide) rfl rfl rfl hl rfl (Nat.le_of_ble_eq_true rfl) dL_chance_11 ⟨Nat.le_of_ble_eq_true rfl, Nat.le_of_ble_eq_true rfl⟩ htb (fun z hz => by cases List.mem_singleton.mp hz; exact Or.inr ⟨by decide, "java/util/NoSuchElementException", wK_L_18, by simp [aNcs]⟩) (by decide) (by decide) wK_L_13 (by simp [aXs]) (fun q8 H locs hw => ?_)
        refine lv_astore (lv' := [(7, .ref q8), (0, .ref (ad 0)), (1, .int x1), (2, .int x2), (3, .int x3), (4, .int x4), (5, .int x5), (6, .ref (ad 125))]) hx hb dL_chance_22 hl (by decide) rfl (fun ls hl => ?_)
        refine lv_iconst (v := 2) hx hb dL_chance_24 (by decide) ?_
        exact w_iret C hw (by decide) (by decide) dL_chance_25
      · replace hM := h_f he1 hM
        cases hM
  | inr q =>
    replace hM : some (0, pJ q.2 125 0 q.1) = some res := hM
    have q9 := c_X6_chance l hst hr
    refine x_callN (σ' := aG q.2) (v := (some (.long q.1))) (As := fun ad => [.int x1, .int x2, .int x3, .int x4, .int x5]) (rest := [.int (0 : Int32), .ref (ad 125)]) (ob := 0) C hw q9 k_X6_chance wM_L_54 ⟨Nat.le_of_ble_eq_true rfl, Nat.le_of_ble_eq_true rfl⟩ rfl (by decide) rfl rfl rfl hl rfl (Nat.le_of_ble_eq_true rfl) dL_chance_11 ⟨Nat.zero_le _, Nat.zero_le _⟩ (fun H locs hw => ?_)
    refine a_last (σ := aG q.2) (o := 125) C hw rfl (aIn_v (by decide)) (show (0 : Int32).toNatClampNeg = 0 by decide) dL_chance_14 (fun H locs hw => ?_)
    have hw : aW D dA ad adV (aG (pJ q.2 125 0 q.1)) A s H locs := by rw [aG_PJ] at hw; exact hw
    refine lv_goto (tgt := 26) hx hb dL_chance_15 (by decide) ?_
    refine lv_iconst (v := 0) hx hb dL_chance_26 (by decide) ?_
    cases h_e hM
    exact w_iret C hw (by decide) (by decide) dL_chance_27
theorem wW_yL_size : Cond.codeWith yL_size cL_size 4 (some .int) [(0, 8, 11, 13)] ∈ aTs := aTs_4 114 (by decide +kernel) (by decide +kernel)
def fw_size : Nat := 8
def ww_size : Nat := 142
set_option maxHeartbeats 200000 in
set_option maxRecDepth 100000 in
theorem cw_size (l : Launch) (hst : l.stackTraces = false) {x1 : Int32} {ι : iS} {res : Int32 × iS} (hM : w_size x1 ι = some res) : aMw l yL_size cL_size 4 [(0, 8, 11, 13)] fw_size ww_size (fun ad => [.ref (ad 0), .int x1, .ref (ad 125)]) (aG ι) (some (.int res.1)) (aG res.2) := by
  refine aMw.of (by decide) (fun _ => Nat.le_of_ble_eq_true rfl) ?_
  intro p e s m args below meth c D dA ad adV A ls C hw hl htb
  have C : aX p m c cL_size 4 s args aTs RL meth (some .int) := C
  have hx := C.1.1
  have hb := C.1.2.1
  have hl : lv_has ls 4 [(0, .ref (ad 0)), (1, .int x1), (2, .ref (ad 125))] := hl
  unfold w_size at hM
  obtain ⟨r, hr, hM⟩ := h_b hM
  refine lv_aload_n hx hb dL_size_0 rfl (lv_at hl 2 rfl) ?_
  refine lv_iconst (v := (0 : Int32)) hx hb dL_size_1 (by decide) ?_
  refine lv_aload_n hx hb dL_size_2 rfl (lv_at hl 0 rfl) ?_
  refine lv_iload_n hx hb dL_size_3 rfl (lv_at hl 1 rfl) ?_
  cases r with
  | inl q =>
    obtain ⟨e9, ι1⟩ := q
    replace hM : (if e9 = 1 then some (1, ι1) else none) = some res := hM
    by_cases he0 : e9 = 1
    · replace hM := h_t he0 hM
      subst he0
      cases h_e hM
      have q9 := c_X6_size l hst hr
      replace q9 : aMx l yX6_size cX6_size 10 (some .long) fx_X6_size wx_X6_size (fun ad => [.ref (ad 0), .int x1]) (aG ι) (.inl (aEx 1, aG ι1)) := q9
      rw [aEx1] at q9
      refine x_callC (σ' := aG ι1) (As := fun ad => [.int x1]) (rest := [.int (0 : Int32), .ref (ad 125)]) (ob := 0) (pre := []) (x := ⟨0, 8, 11, 13⟩) (suf := []) C hw q9 k_X6_size wM_L_58 ⟨Nat.le_of_ble_eq_true rfl, Nat.le_of_ble_eq_true rfl⟩ rfl (by decide) rfl rfl rfl hl rfl (Nat.le_of_ble_eq_true rfl) dL_size_4 ⟨Nat.le_of_ble_eq_true rfl, Nat.le_of_ble_eq_true rfl⟩ htb (fun z hz => absurd hz List.not_mem_nil) (by decide) (by decide) wK_L_13 (by simp [aXs]) (fun q8 H locs hw => ?_)
      refine lv_astore_n (lv' := [(3, .ref q8), (0, .ref (ad 0)), (1, .int x1), (2, .ref (ad 125))]) hx hb dL_size_11 rfl hl (by decide) rfl (fun ls hl => ?_)
      refine lv_iconst (v := 1) hx hb dL_size_12 (by decide) ?_
      exact w_iret C hw (by decide) (by decide) dL_size_13
    · replace hM := h_f he0 hM
      cases hM
  | inr q =>
    replace hM : some (0, pJ q.2 125 0 q.1) = some res := hM
    have q9 := c_X6_size l hst hr
    refine x_callN (σ' := aG q.2) (v := (some (.long q.1))) (As := fun ad => [.int x1]) (rest := [.int (0 : Int32), .ref (ad 125)]) (ob := 0) C hw q9 k_X6_size wM_L_58 ⟨Nat.le_of_ble_eq_true rfl, Nat.le_of_ble_eq_true rfl⟩ rfl (by decide) rfl rfl rfl hl rfl (Nat.le_of_ble_eq_true rfl) dL_size_4 ⟨Nat.zero_le _, Nat.zero_le _⟩ (fun H locs hw => ?_)
    refine a_last (σ := aG q.2) (o := 125) C hw rfl (aIn_v (by decide)) (show (0 : Int32).toNatClampNeg = 0 by decide) dL_size_7 (fun H locs hw => ?_)
    have hw : aW D dA ad adV (aG (pJ q.2 125 0 q.1)) A s H locs := by rw [aG_PJ] at hw; exact hw
    refine lv_goto (tgt := 14) hx hb dL_size_8 (by decide) ?_
    refine lv_iconst (v := 0) hx hb dL_size_14 (by decide) ?_
    cases h_e hM
    exact w_iret C hw (by decide) (by decide) dL_size_15
theorem wW_yL_fairest : Cond.codeWith yL_fairest cL_fairest 5 (some .int) [(0, 9, 12, 13)] ∈ aTs := aTs_4 121 (by decide +kernel) (by decide +kernel)
def fw_fairest : Nat := 63
def ww_fairest : Nat := 1676
set_option maxHeartbeats 200000 in
set_option maxRecDepth 100000 in
theorem cw_fairest (l : Launch) (hst : l.stackTraces = false) {x1 : Int32} {x2 : Int32} {ι : iS} {res : Int32 × iS} (hM : w_fairest x1 x2 ι = some res) : aMw l yL_fairest cL_fairest 5 [(0, 9, 12, 13)] fw_fairest ww_fairest (fun ad => [.ref (ad 0), .int x1, .int x2, .ref (ad 125)]) (aG ι) (some (.int res.1)) (aG res.2) := by
  refine aMw.of (by decide) (fun _ => Nat.le_of_ble_eq_true rfl) ?_
  intro p e s m args below meth c D dA ad adV A ls C hw hl htb
  have C : aX p m c cL_fairest 5 s args aTs RL meth (some .int) := C
  have hx := C.1.1
  have hb := C.1.2.1
  have hl : lv_has ls 5 [(0, .ref (ad 0)), (1, .int x1), (2, .int x2), (3, .ref (ad 125))] := hl
  unfold w_fairest at hM
  obtain ⟨r, hr, hM⟩ := h_b hM
  refine lv_aload_n hx hb dL_fairest_0 rfl (lv_at hl 3 rfl) ?_
  refine lv_iconst (v := (0 : Int32)) hx hb dL_fairest_1 (by decide) ?_
  refine lv_aload_n hx hb dL_fairest_2 rfl (lv_at hl 0 rfl) ?_
  refine lv_iload_n hx hb dL_fairest_3 rfl (lv_at hl 1 rfl) ?_
  refine lv_iload_n hx hb dL_fairest_4 rfl (lv_at hl 2 rfl) ?_
  cases r with
  | inl q =>
    obtain ⟨e9, ι1⟩ := q
    replace hM : (if e9 = 1 then some (1, ι1) else none) = some res := hM
    by_cases he0 : e9 = 1
    · replace hM := h_t he0 hM
      subst he0
      cases h_e hM
      have q9 := c_X6_fairest l hst hr
      replace q9 : aMx l yX6_fairest cX6_fairest 3 (some .long) fx_X6_fairest wx_X6_fairest (fun ad => [.ref (ad 0), .int x1, .int x2]) (aG ι) (.inl (aEx 1, aG ι1)) := q9
      rw [aEx1] at q9
      refine x_callC (σ' := aG ι1) (As := fun ad => [.int x1, .int x2]) (rest := [.int (0 : Int32), .ref (ad 125)]) (ob := 0) (pre := []) (x := ⟨0, 9, 12, 13⟩) (suf := []) C hw q9 k_X6_fairest wM_L_62 ⟨Nat.le_of_ble_eq_true rfl, Nat.le_of_ble_eq_true rfl⟩ rfl (by decide) rfl rfl rfl hl rfl (Nat.le_of_ble_eq_true rfl) dL_fairest_5 ⟨Nat.le_of_ble_eq_true rfl, Nat.le_of_ble_eq_true rfl⟩ htb (fun z hz => absurd hz List.not_mem_nil) (by decide) (by decide) wK_L_13 (by simp [aXs]) (fun q8 H locs hw => ?_)
      refine lv_astore (lv' := [(4, .ref q8), (0, .ref (ad 0)), (1, .int x1), (2, .int x2), (3, .ref (ad 125))]) hx hb dL_fairest_12 hl (by decide) rfl (fun ls hl => ?_)
      refine lv_iconst (v := 1) hx hb dL_fairest_14 (by decide) ?_
      exact w_iret C hw (by decide) (by decide) dL_fairest_15
    · replace hM := h_f he0 hM
      cases hM
  | inr q =>
    replace hM : some (0, pJ q.2 125 0 q.1) = some res := hM
    have q9 := c_X6_fairest l hst hr
    refine x_callN (σ' := aG q.2) (v := (some (.long q.1))) (As := fun ad => [.int x1, .int x2]) (rest := [.int (0 : Int32), .ref (ad 125)]) (ob := 0) C hw q9 k_X6_fairest wM_L_62 ⟨Nat.le_of_ble_eq_true rfl, Nat.le_of_ble_eq_true rfl⟩ rfl (by decide) rfl rfl rfl hl rfl (Nat.le_of_ble_eq_true rfl) dL_fairest_5 ⟨Nat.zero_le _, Nat.zero_le _⟩ (fun H locs hw => ?_)
    refine a_last (σ := aG q.2) (o := 125) C hw rfl (aIn_v (by decide)) (show (0 : Int32).toNatClampNeg = 0 by decide) dL_fairest_8 (fun H locs hw => ?_)
    have hw : aW D dA ad adV (aG (pJ q.2 125 0 q.1)) A s H locs := by rw [aG_PJ] at hw; exact hw
    refine lv_goto (tgt := 16) hx hb dL_fairest_9 (by decide) ?_
    refine lv_iconst (v := 0) hx hb dL_fairest_16 (by decide) ?_
    cases h_e hM
    exact w_iret C hw (by decide) (by decide) dL_fairest_17
theorem wW_yL_odds : Cond.codeWith yL_odds cL_odds 7 (some .int) [(0, 13, 16, 13), (0, 13, 20, 20)] ∈ aTs := aTs_4 143 (by decide +kernel) (by decide +kernel)
def fw_odds : Nat := 8
def ww_odds : Nat := 177
set_option maxHeartbeats 200000 in
set_option maxRecDepth 100000 in
theorem cw_odds (l : Launch) (hst : l.stackTraces = false) {x1 : Int32} {x2 : Int32} {x3 : Int32} {x4 : Int32} {ι : iS} {res : Int32 × iS} (hM : w_odds x1 x2 x3 x4 ι = some res) : aMw l yL_odds cL_odds 7 [(0, 13, 16, 13), (0, 13, 20, 20)] fw_odds ww_odds (fun ad => [.ref (ad 0), .int x1, .int x2, .int x3, .int x4, .ref (ad 125)]) (aG ι) (some (.int res.1)) (aG res.2) := by
  refine aMw.of (by decide) (fun _ => Nat.le_of_ble_eq_true rfl) ?_
  intro p e s m args below meth c D dA ad adV A ls C hw hl htb
  have C : aX p m c cL_odds 7 s args aTs RL meth (some .int) := C
  have hx := C.1.1
  have hb := C.1.2.1
  have hl : lv_has ls 7 [(0, .ref (ad 0)), (1, .int x1), (2, .int x2), (3, .int x3), (4, .int x4), (5, .ref (ad 125))] := hl
  unfold w_odds at hM
  obtain ⟨r, hr, hM⟩ := h_b hM
  refine lv_aload hx hb dL_odds_0 (lv_at hl 5 rfl) ?_
  refine lv_iconst (v := (0 : Int32)) hx hb dL_odds_2 (by decide) ?_
  refine lv_aload_n hx hb dL_odds_3 rfl (lv_at hl 0 rfl) ?_
  refine lv_iload_n hx hb dL_odds_4 rfl (lv_at hl 1 rfl) ?_
  refine lv_iload_n hx hb dL_odds_5 rfl (lv_at hl 2 rfl) ?_
  refine lv_iload_n hx hb dL_odds_6 rfl (lv_at hl 3 rfl) ?_
  refine lv_iload hx hb dL_odds_7 (lv_at hl 4 rfl) ?_
  cases r with
  | inl q =>
    obtain ⟨e9, ι1⟩ := q
    replace hM : (if e9 = 1 then some (1, ι1) else if e9 = 2 then some (2, ι1) else none) = some res := hM
    by_cases he0 : e9 = 1
    · replace hM := h_t he0 hM
      subst he0
      cases h_e hM
      have q9 := c_X6_odds l hst hr
      replace q9 : aMx l yX6_odds cX6_odds 14 (some .long) fx_X6_odds wx_X6_odds (fun ad => [.ref (ad 0), .int x1, .int x2, .int x3, .int x4]) (aG ι) (.inl (aEx 1, aG ι1)) := q9
      rw [aEx1] at q9
      refine x_callC (σ' := aG ι1) (As := fun ad => [.int x1, .int x2, .int x3, .int x4]) (rest := [.int (0 : Int32), .ref (ad 125)]) (ob := 0) (pre := []) (x := ⟨0, 13, 16, 13⟩) (suf := [⟨0, 13, 20, 20⟩]) C hw q9 k_X6_odds wM_L_66 ⟨Nat.le_of_ble_eq_true rfl, Nat.le_of_ble_eq_true rfl⟩ rfl (by decide) rfl rfl rfl hl rfl (Nat.le_of_ble_eq_true rfl) dL_odds_9 ⟨Nat.le_of_ble_eq_true rfl, Nat.le_of_ble_eq_true rfl⟩ htb (fun z hz => absurd hz List.not_mem_nil) (by decide) (by decide) wK_L_13 (by simp [aXs]) (fun q8 H locs hw => ?_)
      refine lv_astore (lv' := [(6, .ref q8), (0, .ref (ad 0)), (1, .int x1), (2, .int x2), (3, .int x3), (4, .int x4), (5, .ref (ad 125))]) hx hb dL_odds_16 hl (by decide) rfl (fun ls hl => ?_)
      refine lv_iconst (v := 1) hx hb dL_odds_18 (by decide) ?_
      exact w_iret C hw (by decide) (by decide) dL_odds_19
    · replace hM := h_f he0 hM
      by_cases he1 : e9 = 2
      · replace hM := h_t he1 hM
        subst he1
        cases h_e hM
        have q9 := c_X6_odds l hst hr
        replace q9 : aMx l yX6_odds cX6_odds 14 (some .long) fx_X6_odds wx_X6_odds (fun ad => [.ref (ad 0), .int x1, .int x2, .int x3, .int x4]) (aG ι) (.inl (aEx 2, aG ι1)) := q9
        rw [aEx2] at q9
        refine x_callC (σ' := aG ι1) (As := fun ad => [.int x1, .int x2, .int x3, .int x4]) (rest := [.int (0 : Int32), .ref (ad 125)]) (ob := 0) (pre := [⟨0, 13, 16, 13⟩]) (x := ⟨0, 13, 20, 20⟩) (suf := []) C hw q9 k_X6_odds wM_L_66 ⟨Nat.le_of_ble_eq_true rfl, Nat.le_of_ble_eq_true rfl⟩ rfl (by decide) rfl rfl rfl hl rfl (Nat.le_of_ble_eq_true rfl) dL_odds_9 ⟨Nat.le_of_ble_eq_true rfl, Nat.le_of_ble_eq_true rfl⟩ htb (fun z hz => by cases List.mem_singleton.mp hz; exact Or.inr ⟨by decide, "java/lang/IllegalArgumentException", wK_L_13, by simp [aNcs]⟩) (by decide) (by decide) wK_L_20 (by simp [aXs]) (fun q8 H locs hw => ?_)
        refine lv_astore (lv' := [(6, .ref q8), (0, .ref (ad 0)), (1, .int x1), (2, .int x2), (3, .int x3), (4, .int x4), (5, .ref (ad 125))]) hx hb dL_odds_20 hl (by decide) rfl (fun ls hl => ?_)
        refine lv_iconst (v := 2) hx hb dL_odds_22 (by decide) ?_
        exact w_iret C hw (by decide) (by decide) dL_odds_23
      · replace hM := h_f he1 hM
        cases hM
  | inr q =>
    replace hM : some (0, pJ q.2 125 0 q.1) = some res := hM
    have q9 := c_X6_odds l hst hr
    refine x_callN (σ' := aG q.2) (v := (some (.long q.1))) (As := fun ad => [.int x1, .int x2, .int x3, .int x4]) (rest := [.int (0 : Int32), .ref (ad 125)]) (ob := 0) C hw q9 k_X6_odds wM_L_66 ⟨Nat.le_of_ble_eq_true rfl, Nat.le_of_ble_eq_true rfl⟩ rfl (by decide) rfl rfl rfl hl rfl (Nat.le_of_ble_eq_true rfl) dL_odds_9 ⟨Nat.zero_le _, Nat.zero_le _⟩ (fun H locs hw => ?_)
    refine a_last (σ := aG q.2) (o := 125) C hw rfl (aIn_v (by decide)) (show (0 : Int32).toNatClampNeg = 0 by decide) dL_odds_12 (fun H locs hw => ?_)
    have hw : aW D dA ad adV (aG (pJ q.2 125 0 q.1)) A s H locs := by rw [aG_PJ] at hw; exact hw
    refine lv_goto (tgt := 24) hx hb dL_odds_13 (by decide) ?_
    refine lv_iconst (v := 0) hx hb dL_odds_24 (by decide) ?_
    cases h_e hM
    exact w_iret C hw (by decide) (by decide) dL_odds_25
theorem wW_yL_cut : Cond.codeWith yL_cut cL_cut 4 (some .int) [(0, 9, 12, 13), (0, 9, 15, 20)] ∈ aTs := aTs_4 151 (by decide +kernel) (by decide +kernel)
def fw_cut : Nat := 8
def ww_cut : Nat := 172
set_option maxHeartbeats 200000 in
set_option maxRecDepth 100000 in
theorem cw_cut (l : Launch) (hst : l.stackTraces = false) {x1 : Int32} {ι : iS} {res : Int32 × iS} (hM : w_cut x1 ι = some res) : aMw l yL_cut cL_cut 4 [(0, 9, 12, 13), (0, 9, 15, 20)] fw_cut ww_cut (fun ad => [.ref (ad 0), .int x1, .ref (ad 125)]) (aG ι) (some (.int res.1)) (aG res.2) := by
  refine aMw.of (by decide) (fun _ => Nat.le_of_ble_eq_true rfl) ?_
  intro p e s m args below meth c D dA ad adV A ls C hw hl htb
  have C : aX p m c cL_cut 4 s args aTs RL meth (some .int) := C
  have hx := C.1.1
  have hb := C.1.2.1
  have hl : lv_has ls 4 [(0, .ref (ad 0)), (1, .int x1), (2, .ref (ad 125))] := hl
  unfold w_cut at hM
  obtain ⟨r, hr, hM⟩ := h_b hM
  refine lv_aload_n hx hb dL_cut_0 rfl (lv_at hl 2 rfl) ?_
  refine lv_iconst (v := (0 : Int32)) hx hb dL_cut_1 (by decide) ?_
  refine lv_aload_n hx hb dL_cut_2 rfl (lv_at hl 0 rfl) ?_
  refine lv_iload_n hx hb dL_cut_3 rfl (lv_at hl 1 rfl) ?_
  cases r with
  | inl q =>
    obtain ⟨e9, ι1⟩ := q
    replace hM : (if e9 = 1 then some (1, ι1) else if e9 = 2 then some (2, ι1) else none) = some res := hM
    by_cases he0 : e9 = 1
    · replace hM := h_t he0 hM
      subst he0
      cases h_e hM
      have q9 := c_X6_cut l hst hr
      replace q9 : aMx l yX6_cut cX6_cut 9 (some .int) fx_X6_cut wx_X6_cut (fun ad => [.ref (ad 0), .int x1]) (aG ι) (.inl (aEx 1, aG ι1)) := q9
      rw [aEx1] at q9
      refine x_callC (σ' := aG ι1) (As := fun ad => [.int x1]) (rest := [.int (0 : Int32), .ref (ad 125)]) (ob := 0) (pre := []) (x := ⟨0, 9, 12, 13⟩) (suf := [⟨0, 9, 15, 20⟩]) C hw q9 k_X6_cut wM_L_70 ⟨Nat.le_of_ble_eq_true rfl, Nat.le_of_ble_eq_true rfl⟩ rfl (by decide) rfl rfl rfl hl rfl (Nat.le_of_ble_eq_true rfl) dL_cut_4 ⟨Nat.le_of_ble_eq_true rfl, Nat.le_of_ble_eq_true rfl⟩ htb (fun z hz => absurd hz List.not_mem_nil) (by decide) (by decide) wK_L_13 (by simp [aXs]) (fun q8 H locs hw => ?_)
      refine lv_astore_n (lv' := [(3, .ref q8), (0, .ref (ad 0)), (1, .int x1), (2, .ref (ad 125))]) hx hb dL_cut_12 rfl hl (by decide) rfl (fun ls hl => ?_)
      refine lv_iconst (v := 1) hx hb dL_cut_13 (by decide) ?_
      exact w_iret C hw (by decide) (by decide) dL_cut_14
    · replace hM := h_f he0 hM
      by_cases he1 : e9 = 2
      · replace hM := h_t he1 hM
        subst he1
        cases h_e hM
        have q9 := c_X6_cut l hst hr
        replace q9 : aMx l yX6_cut cX6_cut 9 (some .int) fx_X6_cut wx_X6_cut (fun ad => [.ref (ad 0), .int x1]) (aG ι) (.inl (aEx 2, aG ι1)) := q9
        rw [aEx2] at q9
        refine x_callC (σ' := aG ι1) (As := fun ad => [.int x1]) (rest := [.int (0 : Int32), .ref (ad 125)]) (ob := 0) (pre := [⟨0, 9, 12, 13⟩]) (x := ⟨0, 9, 15, 20⟩) (suf := []) C hw q9 k_X6_cut wM_L_70 ⟨Nat.le_of_ble_eq_true rfl, Nat.le_of_ble_eq_true rfl⟩ rfl (by decide) rfl rfl rfl hl rfl (Nat.le_of_ble_eq_true rfl) dL_cut_4 ⟨Nat.le_of_ble_eq_true rfl, Nat.le_of_ble_eq_true rfl⟩ htb (fun z hz => by cases List.mem_singleton.mp hz; exact Or.inr ⟨by decide, "java/lang/IllegalArgumentException", wK_L_13, by simp [aNcs]⟩) (by decide) (by decide) wK_L_20 (by simp [aXs]) (fun q8 H locs hw => ?_)
        refine lv_astore_n (lv' := [(3, .ref q8), (0, .ref (ad 0)), (1, .int x1), (2, .ref (ad 125))]) hx hb dL_cut_15 rfl hl (by decide) rfl (fun ls hl => ?_)
        refine lv_iconst (v := 2) hx hb dL_cut_16 (by decide) ?_
        exact w_iret C hw (by decide) (by decide) dL_cut_17
      · replace hM := h_f he1 hM
        cases hM
  | inr q =>
    replace hM : some (0, pJ q.2 125 0 q.1.toInt64) = some res := hM
    have q9 := c_X6_cut l hst hr
    refine x_callN (σ' := aG q.2) (v := (some (.int q.1))) (As := fun ad => [.int x1]) (rest := [.int (0 : Int32), .ref (ad 125)]) (ob := 0) C hw q9 k_X6_cut wM_L_70 ⟨Nat.le_of_ble_eq_true rfl, Nat.le_of_ble_eq_true rfl⟩ rfl (by decide) rfl rfl rfl hl rfl (Nat.le_of_ble_eq_true rfl) dL_cut_4 ⟨Nat.zero_le _, Nat.zero_le _⟩ (fun H locs hw => ?_)
    refine lv_i2l hx hb dL_cut_7 rfl ?_
    refine a_last (σ := aG q.2) (o := 125) C hw rfl (aIn_v (by decide)) (show (0 : Int32).toNatClampNeg = 0 by decide) dL_cut_8 (fun H locs hw => ?_)
    have hw : aW D dA ad adV (aG (pJ q.2 125 0 q.1.toInt64)) A s H locs := by rw [aG_PJ] at hw; exact hw
    refine lv_goto (tgt := 18) hx hb dL_cut_9 (by decide) ?_
    refine lv_iconst (v := 0) hx hb dL_cut_18 (by decide) ?_
    cases h_e hM
    exact w_iret C hw (by decide) (by decide) dL_cut_19
theorem wW_yL_nudged : Cond.codeWith yL_nudged cL_nudged 4 (some .int) [(0, 9, 12, 13), (0, 9, 15, 20)] ∈ aTs := aTs_4 158 (by decide +kernel) (by decide +kernel)
def fw_nudged : Nat := 8
def ww_nudged : Nat := 172
set_option maxHeartbeats 200000 in
set_option maxRecDepth 100000 in
theorem cw_nudged (l : Launch) (hst : l.stackTraces = false) {x1 : Int32} {ι : iS} {res : Int32 × iS} (hM : w_nudged x1 ι = some res) : aMw l yL_nudged cL_nudged 4 [(0, 9, 12, 13), (0, 9, 15, 20)] fw_nudged ww_nudged (fun ad => [.ref (ad 0), .int x1, .ref (ad 125)]) (aG ι) (some (.int res.1)) (aG res.2) := by
  refine aMw.of (by decide) (fun _ => Nat.le_of_ble_eq_true rfl) ?_
  intro p e s m args below meth c D dA ad adV A ls C hw hl htb
  have C : aX p m c cL_nudged 4 s args aTs RL meth (some .int) := C
  have hx := C.1.1
  have hb := C.1.2.1
  have hl : lv_has ls 4 [(0, .ref (ad 0)), (1, .int x1), (2, .ref (ad 125))] := hl
  unfold w_nudged at hM
  obtain ⟨r, hr, hM⟩ := h_b hM
  refine lv_aload_n hx hb dL_nudged_0 rfl (lv_at hl 2 rfl) ?_
  refine lv_iconst (v := (0 : Int32)) hx hb dL_nudged_1 (by decide) ?_
  refine lv_aload_n hx hb dL_nudged_2 rfl (lv_at hl 0 rfl) ?_
  refine lv_iload_n hx hb dL_nudged_3 rfl (lv_at hl 1 rfl) ?_
  cases r with
  | inl q =>
    obtain ⟨e9, ι1⟩ := q
    replace hM : (if e9 = 1 then some (1, ι1) else if e9 = 2 then some (2, ι1) else none) = some res := hM
    by_cases he0 : e9 = 1
    · replace hM := h_t he0 hM
      subst he0
      cases h_e hM
      have q9 := c_X6_nudged l hst hr
      replace q9 : aMx l yX6_nudged cX6_nudged 9 (some .int) fx_X6_nudged wx_X6_nudged (fun ad => [.ref (ad 0), .int x1]) (aG ι) (.inl (aEx 1, aG ι1)) := q9
      rw [aEx1] at q9
      refine x_callC (σ' := aG ι1) (As := fun ad => [.int x1]) (rest := [.int (0 : Int32), .ref (ad 125)]) (ob := 0) (pre := []) (x := ⟨0, 9, 12, 13⟩) (suf := [⟨0, 9, 15, 20⟩]) C hw q9 k_X6_nudged wM_L_73 ⟨Nat.le_of_ble_eq_true rfl, Nat.le_of_ble_eq_true rfl⟩ rfl (by decide) rfl rfl rfl hl rfl (Nat.le_of_ble_eq_true rfl) dL_nudged_4 ⟨Nat.le_of_ble_eq_true rfl, Nat.le_of_ble_eq_true rfl⟩ htb (fun z hz => absurd hz List.not_mem_nil) (by decide) (by decide) wK_L_13 (by simp [aXs]) (fun q8 H locs hw => ?_)
      refine lv_astore_n (lv' := [(3, .ref q8), (0, .ref (ad 0)), (1, .int x1), (2, .ref (ad 125))]) hx hb dL_nudged_12 rfl hl (by decide) rfl (fun ls hl => ?_)
      refine lv_iconst (v := 1) hx hb dL_nudged_13 (by decide) ?_
      exact w_iret C hw (by decide) (by decide) dL_nudged_14
    · replace hM := h_f he0 hM
      by_cases he1 : e9 = 2
      · replace hM := h_t he1 hM
        subst he1
        cases h_e hM
        have q9 := c_X6_nudged l hst hr
        replace q9 : aMx l yX6_nudged cX6_nudged 9 (some .int) fx_X6_nudged wx_X6_nudged (fun ad => [.ref (ad 0), .int x1]) (aG ι) (.inl (aEx 2, aG ι1)) := q9
        rw [aEx2] at q9
        refine x_callC (σ' := aG ι1) (As := fun ad => [.int x1]) (rest := [.int (0 : Int32), .ref (ad 125)]) (ob := 0) (pre := [⟨0, 9, 12, 13⟩]) (x := ⟨0, 9, 15, 20⟩) (suf := []) C hw q9 k_X6_nudged wM_L_73 ⟨Nat.le_of_ble_eq_true rfl, Nat.le_of_ble_eq_true rfl⟩ rfl (by decide) rfl rfl rfl hl rfl (Nat.le_of_ble_eq_true rfl) dL_nudged_4 ⟨Nat.le_of_ble_eq_true rfl, Nat.le_of_ble_eq_true rfl⟩ htb (fun z hz => by cases List.mem_singleton.mp hz; exact Or.inr ⟨by decide, "java/lang/IllegalArgumentException", wK_L_13, by simp [aNcs]⟩) (by decide) (by decide) wK_L_20 (by simp [aXs]) (fun q8 H locs hw => ?_)
        refine lv_astore_n (lv' := [(3, .ref q8), (0, .ref (ad 0)), (1, .int x1), (2, .ref (ad 125))]) hx hb dL_nudged_15 rfl hl (by decide) rfl (fun ls hl => ?_)
        refine lv_iconst (v := 2) hx hb dL_nudged_16 (by decide) ?_
        exact w_iret C hw (by decide) (by decide) dL_nudged_17
      · replace hM := h_f he1 hM
        cases hM
  | inr q =>
    replace hM : some (0, pJ q.2 125 0 q.1.toInt64) = some res := hM
    have q9 := c_X6_nudged l hst hr
    refine x_callN (σ' := aG q.2) (v := (some (.int q.1))) (As := fun ad => [.int x1]) (rest := [.int (0 : Int32), .ref (ad 125)]) (ob := 0) C hw q9 k_X6_nudged wM_L_73 ⟨Nat.le_of_ble_eq_true rfl, Nat.le_of_ble_eq_true rfl⟩ rfl (by decide) rfl rfl rfl hl rfl (Nat.le_of_ble_eq_true rfl) dL_nudged_4 ⟨Nat.zero_le _, Nat.zero_le _⟩ (fun H locs hw => ?_)
    refine lv_i2l hx hb dL_nudged_7 rfl ?_
    refine a_last (σ := aG q.2) (o := 125) C hw rfl (aIn_v (by decide)) (show (0 : Int32).toNatClampNeg = 0 by decide) dL_nudged_8 (fun H locs hw => ?_)
    have hw : aW D dA ad adV (aG (pJ q.2 125 0 q.1.toInt64)) A s H locs := by rw [aG_PJ] at hw; exact hw
    refine lv_goto (tgt := 18) hx hb dL_nudged_9 (by decide) ?_
    refine lv_iconst (v := 0) hx hb dL_nudged_18 (by decide) ?_
    cases h_e hM
    exact w_iret C hw (by decide) (by decide) dL_nudged_19
