theorem dv_X0 : ∀ j, j < 6 → ∃ t, (aT 0)[j]? = some t ∧ defaultValue (tyX0 j) = (if t = 0 then .int 0 else if t = 1 then .long 0 else .null) ∧ t < 3
  | 0, _ => ⟨0, rfl, rfl, by decide⟩
  | 1, _ => ⟨1, rfl, rfl, by decide⟩
  | 2, _ => ⟨1, rfl, rfl, by decide⟩
  | 3, _ => ⟨0, rfl, rfl, by decide⟩
  | 4, _ => ⟨0, rfl, rfl, by decide⟩
  | 5, _ => ⟨2, rfl, rfl, by decide⟩
  | j + 6, h => absurd h (by omega)
theorem dv_X1 : ∀ j, j < 3 → ∃ t, (aT 1)[j]? = some t ∧ defaultValue (tyX1 j) = (if t = 0 then .int 0 else if t = 1 then .long 0 else .null) ∧ t < 3
  | 0, _ => ⟨2, rfl, rfl, by decide⟩
  | 1, _ => ⟨2, rfl, rfl, by decide⟩
  | 2, _ => ⟨0, rfl, rfl, by decide⟩
  | j + 3, h => absurd h (by omega)
theorem dv_X2 : ∀ j, j < 11 → ∃ t, (aT 2)[j]? = some t ∧ defaultValue (tyX2 j) = (if t = 0 then .int 0 else if t = 1 then .long 0 else .null) ∧ t < 3
  | 0, _ => ⟨0, rfl, rfl, by decide⟩
  | 1, _ => ⟨0, rfl, rfl, by decide⟩
  | 2, _ => ⟨0, rfl, rfl, by decide⟩
  | 3, _ => ⟨2, rfl, rfl, by decide⟩
  | 4, _ => ⟨2, rfl, rfl, by decide⟩
  | 5, _ => ⟨2, rfl, rfl, by decide⟩
  | 6, _ => ⟨2, rfl, rfl, by decide⟩
  | 7, _ => ⟨2, rfl, rfl, by decide⟩
  | 8, _ => ⟨2, rfl, rfl, by decide⟩
  | 9, _ => ⟨2, rfl, rfl, by decide⟩
  | 10, _ => ⟨2, rfl, rfl, by decide⟩
  | j + 11, h => absurd h (by omega)
theorem dv_X3 : ∀ j, j < 7 → ∃ t, (aT 3)[j]? = some t ∧ defaultValue (tyX3 j) = (if t = 0 then .int 0 else if t = 1 then .long 0 else .null) ∧ t < 3
  | 0, _ => ⟨2, rfl, rfl, by decide⟩
  | 1, _ => ⟨2, rfl, rfl, by decide⟩
  | 2, _ => ⟨0, rfl, rfl, by decide⟩
  | 3, _ => ⟨2, rfl, rfl, by decide⟩
  | 4, _ => ⟨0, rfl, rfl, by decide⟩
  | 5, _ => ⟨0, rfl, rfl, by decide⟩
  | 6, _ => ⟨0, rfl, rfl, by decide⟩
  | j + 7, h => absurd h (by omega)
theorem dv_X4 : ∀ j, j < 6 → ∃ t, (aT 4)[j]? = some t ∧ defaultValue (tyX4 j) = (if t = 0 then .int 0 else if t = 1 then .long 0 else .null) ∧ t < 3
  | 0, _ => ⟨2, rfl, rfl, by decide⟩
  | 1, _ => ⟨2, rfl, rfl, by decide⟩
  | 2, _ => ⟨2, rfl, rfl, by decide⟩
  | 3, _ => ⟨0, rfl, rfl, by decide⟩
  | 4, _ => ⟨2, rfl, rfl, by decide⟩
  | 5, _ => ⟨0, rfl, rfl, by decide⟩
  | j + 6, h => absurd h (by omega)
theorem dv_X5 : ∀ j, j < 5 → ∃ t, (aT 5)[j]? = some t ∧ defaultValue (tyX5 j) = (if t = 0 then .int 0 else if t = 1 then .long 0 else .null) ∧ t < 3
  | 0, _ => ⟨0, rfl, rfl, by decide⟩
  | 1, _ => ⟨2, rfl, rfl, by decide⟩
  | 2, _ => ⟨0, rfl, rfl, by decide⟩
  | 3, _ => ⟨0, rfl, rfl, by decide⟩
  | 4, _ => ⟨0, rfl, rfl, by decide⟩
  | j + 5, h => absurd h (by omega)
theorem dv_X6 : ∀ j, j < 11 → ∃ t, (aT 6)[j]? = some t ∧ defaultValue (tyX6 j) = (if t = 0 then .int 0 else if t = 1 then .long 0 else .null) ∧ t < 3
  | 0, _ => ⟨2, rfl, rfl, by decide⟩
  | 1, _ => ⟨0, rfl, rfl, by decide⟩
  | 2, _ => ⟨2, rfl, rfl, by decide⟩
  | 3, _ => ⟨2, rfl, rfl, by decide⟩
  | 4, _ => ⟨2, rfl, rfl, by decide⟩
  | 5, _ => ⟨0, rfl, rfl, by decide⟩
  | 6, _ => ⟨0, rfl, rfl, by decide⟩
  | 7, _ => ⟨2, rfl, rfl, by decide⟩
  | 8, _ => ⟨2, rfl, rfl, by decide⟩
  | 9, _ => ⟨2, rfl, rfl, by decide⟩
  | 10, _ => ⟨2, rfl, rfl, by decide⟩
  | j + 11, h => absurd h (by omega)
theorem dv_X7 : ∀ j, j < 20 → ∃ t, (aT 7)[j]? = some t ∧ defaultValue (tyX7 j) = (if t = 0 then .int 0 else if t = 1 then .long 0 else .null) ∧ t < 3
  | 0, _ => ⟨0, rfl, rfl, by decide⟩
  | 1, _ => ⟨2, rfl, rfl, by decide⟩
  | 2, _ => ⟨0, rfl, rfl, by decide⟩
  | 3, _ => ⟨0, rfl, rfl, by decide⟩
  | 4, _ => ⟨0, rfl, rfl, by decide⟩
  | 5, _ => ⟨0, rfl, rfl, by decide⟩
  | 6, _ => ⟨0, rfl, rfl, by decide⟩
  | 7, _ => ⟨0, rfl, rfl, by decide⟩
  | 8, _ => ⟨2, rfl, rfl, by decide⟩
  | 9, _ => ⟨2, rfl, rfl, by decide⟩
  | 10, _ => ⟨2, rfl, rfl, by decide⟩
  | 11, _ => ⟨2, rfl, rfl, by decide⟩
  | 12, _ => ⟨0, rfl, rfl, by decide⟩
  | 13, _ => ⟨0, rfl, rfl, by decide⟩
  | 14, _ => ⟨0, rfl, rfl, by decide⟩
  | 15, _ => ⟨0, rfl, rfl, by decide⟩
  | 16, _ => ⟨2, rfl, rfl, by decide⟩
  | 17, _ => ⟨2, rfl, rfl, by decide⟩
  | 18, _ => ⟨1, rfl, rfl, by decide⟩
  | 19, _ => ⟨1, rfl, rfl, by decide⟩
  | j + 20, h => absurd h (by omega)
theorem noU {U : List (Nat × Nat)} {o : Nat} (h : (U.all fun q => q.1 != o) = true) : ∀ k, U.contains (o, k) = false := by
  intro k
  rw [Bool.eq_false_iff]
  intro hc
  have := List.all_eq_true.mp h (o, k) (by simpa using hc)
  simp at this
theorem hUn29 {U : List (Nat × Nat)} (h : (List.range 8).all (fun j => U.contains (29, j)) = true) : ∀ j, U.contains (29, j) = true ∨ aP1 29 j = none := by
  intro j
  by_cases hj : j < 8
  · exact Or.inl (List.all_eq_true.mp h j (List.mem_range.mpr hj))
  · refine Or.inr ?_
    cases hz : aP1 29 j with
    | none => rfl
    | some z =>
      have hy := (aP1_lt hz).2.1
      have h9 : ∀ j, j < 20 → ¬ j < 8 → aP1 29 j = none := by decide +kernel
      rw [h9 j hy hj] at hz
      cases hz
theorem ki_X2_init : aCalI yX2_init cX2_init 1 := ⟨wI_yX2_init, wZ_X2, wC_yX2_init, rfl, by decide +kernel⟩
theorem ki_X1_init : aCalI yX1_init cX1_init 1 := ⟨wI_yX1_init, wZ_X1, wC_yX1_init, rfl, by decide +kernel⟩
theorem ki_X4_init : aCalI yX4_init cX4_init 1 := ⟨wI_yX4_init, wZ_X4, wC_yX4_init, rfl, by decide +kernel⟩
theorem ki_X3_init : aCalI yX3_init cX3_init 1 := ⟨wI_yX3_init, wZ_X3, wC_yX3_init, rfl, by decide +kernel⟩
theorem ki_X5_init : aCalI yX5_init cX5_init 1 := ⟨wI_yX5_init, wZ_X5, wC_yX5_init, rfl, by decide +kernel⟩
theorem ki_X0_init : aCalI yX0_init cX0_init 1 := ⟨wI_yX0_init, wZ_X0, wC_yX0_init, rfl, by decide +kernel⟩
theorem ki_X6_init : aCalI yX6_init cX6_init 2 := ⟨wI_yX6_init, wZ_X6, wC_yX6_init, rfl, by decide +kernel⟩
theorem ki_X7_init : aCalI yX7_init cX7_init 1 := ⟨wI_yX7_init, wZ_X7, wC_yX7_init, rfl, by decide +kernel⟩
def mi_X2 (o : Nat) (ι : iS) : Option iS := Option.bind (m_X2_clear o (zR (zR (zR (zR (zR (zR (zR (zR (pI (pI (pI ι o 0 (0 : Int32)) o 1 (1 : Int32)) o 2 (0 : Int32)) (o + 1)) (o + 2)) (o + 3)) (o + 4)) (o + 5)) (o + 6)) (o + 7)) (o + 8))) fun r81 => some r81
def rm_X2_init : Room := { frames := 1, cells := 8, slots := 150, locals := 21 }
set_option maxHeartbeats 400000 in
set_option maxRecDepth 100000 in
theorem ci_X2_init_2 (l : Launch) {ι res : iS} (hM : mi_X2 2 ι = some res) : aMn l yX2_init cX2_init 1 rm_X2_init (fun ad => [.ref (ad 2)]) 3 (aGs 3 [(2, 3), (2, 4), (2, 5), (2, 6), (2, 7), (2, 8), (2, 9), (2, 10), (0, 2), (0, 3), (0, 4), (0, 7), (0, 8), (0, 9), (0, 10)] ι) (aGs 11 [(0, 2), (0, 3), (0, 4), (0, 7), (0, 8), (0, 9), (0, 10)] res) 8 150 := by
  refine aMn.of (by decide) rfl (fun _ => Nat.le_of_ble_eq_true rfl) ?_
  intro p e s m args below meth c D dA ad adV A ls C hin hY hw hl
  have C : aX p m c cX2_init 1 s args aTs RX2 meth none := C
  have hx := C.1.1
  have hb := C.1.2.1
  have hown := C.1.2.2.2.1
  have hts := C.1.2.2.2.2
  have hl : lv_has ls 1 [(0, .ref (ad 2))] := hl
  replace hM : (Option.bind (m_X2_clear 2 (zR (zR (zR (zR (zR (zR (zR (zR (pI (pI (pI ι 2 0 (0 : Int32)) 2 1 (1 : Int32)) 2 2 (0 : Int32)) 3) 4) 5) 6) 7) 8) 9) 10)) fun r81 => some r81) = some res := hM
  refine lv_aload_n hx hb dX2_init_0 rfl (lv_at hl 0 rfl) ?_
  refine n_obj C wM_X2_3 hl dX2_init_1 (Nat.le_of_ble_eq_true rfl) (Nat.le_of_ble_eq_true rfl) ?_
  refine lv_aload_n hx hb dX2_init_4 rfl (lv_at hl 0 rfl) ?_
  refine lv_iconst (v := (0 : Int32)) hx hb dX2_init_5 (by decide) ?_
  refine a_puti (ty := .int) (σ := aGs 3 [(2, 3), (2, 4), (2, 5), (2, 6), (2, 7), (2, 8), (2, 9), (2, 10), (0, 2), (0, 3), (0, 4), (0, 7), (0, 8), (0, 9), (0, 10)] ι) (o := 2) (T := TX2) (N := 11) (ty0 := tyX2) C wU_X2 tyX2_ok nmX2 hw rfl (by decide) rfl 0 (by decide) rfl wF_X2_9 rfl (by decide +kernel) rfl rfl dX2_init_6 (fun H locs hw => ?_)
  have hw : aW D dA ad adV (aGs 3 [(2, 3), (2, 4), (2, 5), (2, 6), (2, 7), (2, 8), (2, 9), (2, 10), (0, 2), (0, 3), (0, 4), (0, 7), (0, 8), (0, 9), (0, 10)] (pI ι 2 0 (0 : Int32))) A s H locs := by rw [aGs_PI] at hw; exact hw
  refine lv_aload_n hx hb dX2_init_9 rfl (lv_at hl 0 rfl) ?_
  refine lv_iconst (v := (1 : Int32)) hx hb dX2_init_10 (by decide) ?_
  refine a_puti (ty := .int) (σ := aGs 3 [(2, 3), (2, 4), (2, 5), (2, 6), (2, 7), (2, 8), (2, 9), (2, 10), (0, 2), (0, 3), (0, 4), (0, 7), (0, 8), (0, 9), (0, 10)] (pI ι 2 0 (0 : Int32))) (o := 2) (T := TX2) (N := 11) (ty0 := tyX2) C wU_X2 tyX2_ok nmX2 hw rfl (by decide) rfl 1 (by decide) rfl wF_X2_15 rfl (by decide +kernel) rfl rfl dX2_init_11 (fun H locs hw => ?_)
  have hw : aW D dA ad adV (aGs 3 [(2, 3), (2, 4), (2, 5), (2, 6), (2, 7), (2, 8), (2, 9), (2, 10), (0, 2), (0, 3), (0, 4), (0, 7), (0, 8), (0, 9), (0, 10)] (pI (pI ι 2 0 (0 : Int32)) 2 1 (1 : Int32))) A s H locs := by rw [aGs_PI] at hw; exact hw
  refine lv_aload_n hx hb dX2_init_14 rfl (lv_at hl 0 rfl) ?_
  refine lv_iconst (v := (0 : Int32)) hx hb dX2_init_15 (by decide) ?_
  refine a_puti (ty := .int) (σ := aGs 3 [(2, 3), (2, 4), (2, 5), (2, 6), (2, 7), (2, 8), (2, 9), (2, 10), (0, 2), (0, 3), (0, 4), (0, 7), (0, 8), (0, 9), (0, 10)] (pI (pI ι 2 0 (0 : Int32)) 2 1 (1 : Int32))) (o := 2) (T := TX2) (N := 11) (ty0 := tyX2) C wU_X2 tyX2_ok nmX2 hw rfl (by decide) rfl 2 (by decide) rfl wF_X2_18 rfl (by decide +kernel) rfl rfl dX2_init_16 (fun H locs hw => ?_)
  have hw : aW D dA ad adV (aGs 3 [(2, 3), (2, 4), (2, 5), (2, 6), (2, 7), (2, 8), (2, 9), (2, 10), (0, 2), (0, 3), (0, 4), (0, 7), (0, 8), (0, 9), (0, 10)] (pI (pI (pI ι 2 0 (0 : Int32)) 2 1 (1 : Int32)) 2 2 (0 : Int32))) A s H locs := by rw [aGs_PI] at hw; exact hw
  refine lv_aload_n hx hb dX2_init_19 rfl (lv_at hl 0 rfl) ?_
  refine lv_bipush (v := (80 : Int32)) hx hb dX2_init_20 (by decide) ?_
  refine n_newa (U' := [(2, 3), (2, 4), (2, 5), (2, 6), (2, 7), (2, 8), (2, 9), (2, 10), (0, 2), (0, 3), (0, 4), (0, 7), (0, 8), (0, 9), (0, 10)]) (ty := .int) (t := 9) C hw (by decide) rfl (nOk.of (N := ([] : List (Nat × Nat))) (by decide +kernel) (by decide)) wA_9 rfl rfl (Or.inr (Or.inl ⟨rfl, rfl⟩)) (by decide) (by decide) (by decide) (Nat.le_of_ble_eq_true rfl) (Nat.le_of_ble_eq_true rfl) dX2_init_22 (fun ad1 H hE hw => ?_)
  have hE0 : ∀ x, x < 3 ∨ 1000000 ≤ x → ad1 x = ad x := fun x hx => (hE x (by omega)).trans (rfl)
  rw [show ad 2 = ad1 2 from (hE 2 (by decide)).symm] at hl
  rw [show ad 2 = ad1 2 from (hE 2 (by decide)).symm]
  have hw : aW D dA ad1 adV (aGs 4 [(2, 3), (2, 4), (2, 5), (2, 6), (2, 7), (2, 8), (2, 9), (2, 10), (0, 2), (0, 3), (0, 4), (0, 7), (0, 8), (0, 9), (0, 10)] (zR (pI (pI (pI ι 2 0 (0 : Int32)) 2 1 (1 : Int32)) 2 2 (0 : Int32)) 3)) A s H locs := hw
  refine n_putF (U' := [(2, 4), (2, 5), (2, 6), (2, 7), (2, 8), (2, 9), (2, 10), (0, 2), (0, 3), (0, 4), (0, 7), (0, 8), (0, 9), (0, 10)]) (ty := .array .int) (o := 2) (q := 3) (T := TX2) (N := 11) (ty0 := tyX2) C hin wU_X2 tyX2_ok nmX2 hw (by decide) rfl (by decide) rfl 3 (by decide) rfl wF_X2_21 rfl rfl (by decide +kernel) rfl rfl rfl (uDel_1 (U := [(2, 3), (2, 4), (2, 5), (2, 6), (2, 7), (2, 8), (2, 9), (2, 10), (0, 2), (0, 3), (0, 4), (0, 7), (0, 8), (0, 9), (0, 10)])) (uDel_2 (U := [(2, 3), (2, 4), (2, 5), (2, 6), (2, 7), (2, 8), (2, 9), (2, 10), (0, 2), (0, 3), (0, 4), (0, 7), (0, 8), (0, 9), (0, 10)])) dX2_init_24 (fun H locs hw => ?_)
  have hw : aW D dA ad1 adV (aGs 4 [(2, 4), (2, 5), (2, 6), (2, 7), (2, 8), (2, 9), (2, 10), (0, 2), (0, 3), (0, 4), (0, 7), (0, 8), (0, 9), (0, 10)] (zR (pI (pI (pI ι 2 0 (0 : Int32)) 2 1 (1 : Int32)) 2 2 (0 : Int32)) 3)) A s H locs := hw
  refine lv_aload_n hx hb dX2_init_27 rfl (lv_at hl 0 rfl) ?_
  refine lv_iconst (v := (5 : Int32)) hx hb dX2_init_28 (by decide) ?_
  refine n_newa (U' := [(2, 4), (2, 5), (2, 6), (2, 7), (2, 8), (2, 9), (2, 10), (0, 2), (0, 3), (0, 4), (0, 7), (0, 8), (0, 9), (0, 10)]) (ty := .int) (t := 9) C hw (by decide) rfl (nOk.of (N := ([] : List (Nat × Nat))) (by decide +kernel) (by decide)) wA_9 rfl rfl (Or.inr (Or.inl ⟨rfl, rfl⟩)) (by decide) (by decide) (by decide) (Nat.le_of_ble_eq_true rfl) (Nat.le_of_ble_eq_true rfl) dX2_init_29 (fun ad2 H hE hw => ?_)
  have hE0 : ∀ x, x < 3 ∨ 1000000 ≤ x → ad2 x = ad x := fun x hx => (hE x (by omega)).trans (hE0 x hx)
  rw [show ad1 2 = ad2 2 from (hE 2 (by decide)).symm] at hl
  rw [show ad1 2 = ad2 2 from (hE 2 (by decide)).symm]
  have hw : aW D dA ad2 adV (aGs 5 [(2, 4), (2, 5), (2, 6), (2, 7), (2, 8), (2, 9), (2, 10), (0, 2), (0, 3), (0, 4), (0, 7), (0, 8), (0, 9), (0, 10)] (zR (zR (pI (pI (pI ι 2 0 (0 : Int32)) 2 1 (1 : Int32)) 2 2 (0 : Int32)) 3) 4)) A s H locs := hw
  refine n_putF (U' := [(2, 5), (2, 6), (2, 7), (2, 8), (2, 9), (2, 10), (0, 2), (0, 3), (0, 4), (0, 7), (0, 8), (0, 9), (0, 10)]) (ty := .array .int) (o := 2) (q := 4) (T := TX2) (N := 11) (ty0 := tyX2) C hin wU_X2 tyX2_ok nmX2 hw (by decide) rfl (by decide) rfl 4 (by decide) rfl wF_X2_25 rfl rfl (by decide +kernel) rfl rfl rfl (uDel_1 (U := [(2, 4), (2, 5), (2, 6), (2, 7), (2, 8), (2, 9), (2, 10), (0, 2), (0, 3), (0, 4), (0, 7), (0, 8), (0, 9), (0, 10)])) (uDel_2 (U := [(2, 4), (2, 5), (2, 6), (2, 7), (2, 8), (2, 9), (2, 10), (0, 2), (0, 3), (0, 4), (0, 7), (0, 8), (0, 9), (0, 10)])) dX2_init_31 (fun H locs hw => ?_)
  have hw : aW D dA ad2 adV (aGs 5 [(2, 5), (2, 6), (2, 7), (2, 8), (2, 9), (2, 10), (0, 2), (0, 3), (0, 4), (0, 7), (0, 8), (0, 9), (0, 10)] (zR (zR (pI (pI (pI ι 2 0 (0 : Int32)) 2 1 (1 : Int32)) 2 2 (0 : Int32)) 3) 4)) A s H locs := hw
  refine lv_aload_n hx hb dX2_init_34 rfl (lv_at hl 0 rfl) ?_
  refine lv_iconst (v := (5 : Int32)) hx hb dX2_init_35 (by decide) ?_
  refine n_newa (U' := [(2, 5), (2, 6), (2, 7), (2, 8), (2, 9), (2, 10), (0, 2), (0, 3), (0, 4), (0, 7), (0, 8), (0, 9), (0, 10)]) (ty := .int) (t := 9) C hw (by decide) rfl (nOk.of (N := ([] : List (Nat × Nat))) (by decide +kernel) (by decide)) wA_9 rfl rfl (Or.inr (Or.inl ⟨rfl, rfl⟩)) (by decide) (by decide) (by decide) (Nat.le_of_ble_eq_true rfl) (Nat.le_of_ble_eq_true rfl) dX2_init_36 (fun ad3 H hE hw => ?_)
  have hE0 : ∀ x, x < 3 ∨ 1000000 ≤ x → ad3 x = ad x := fun x hx => (hE x (by omega)).trans (hE0 x hx)
  rw [show ad2 2 = ad3 2 from (hE 2 (by decide)).symm] at hl
  rw [show ad2 2 = ad3 2 from (hE 2 (by decide)).symm]
  have hw : aW D dA ad3 adV (aGs 6 [(2, 5), (2, 6), (2, 7), (2, 8), (2, 9), (2, 10), (0, 2), (0, 3), (0, 4), (0, 7), (0, 8), (0, 9), (0, 10)] (zR (zR (zR (pI (pI (pI ι 2 0 (0 : Int32)) 2 1 (1 : Int32)) 2 2 (0 : Int32)) 3) 4) 5)) A s H locs := hw
  refine n_putF (U' := [(2, 6), (2, 7), (2, 8), (2, 9), (2, 10), (0, 2), (0, 3), (0, 4), (0, 7), (0, 8), (0, 9), (0, 10)]) (ty := .array .int) (o := 2) (q := 5) (T := TX2) (N := 11) (ty0 := tyX2) C hin wU_X2 tyX2_ok nmX2 hw (by decide) rfl (by decide) rfl 5 (by decide) rfl wF_X2_28 rfl rfl (by decide +kernel) rfl rfl rfl (uDel_1 (U := [(2, 5), (2, 6), (2, 7), (2, 8), (2, 9), (2, 10), (0, 2), (0, 3), (0, 4), (0, 7), (0, 8), (0, 9), (0, 10)])) (uDel_2 (U := [(2, 5), (2, 6), (2, 7), (2, 8), (2, 9), (2, 10), (0, 2), (0, 3), (0, 4), (0, 7), (0, 8), (0, 9), (0, 10)])) dX2_init_38 (fun H locs hw => ?_)
  have hw : aW D dA ad3 adV (aGs 6 [(2, 6), (2, 7), (2, 8), (2, 9), (2, 10), (0, 2), (0, 3), (0, 4), (0, 7), (0, 8), (0, 9), (0, 10)] (zR (zR (zR (pI (pI (pI ι 2 0 (0 : Int32)) 2 1 (1 : Int32)) 2 2 (0 : Int32)) 3) 4) 5)) A s H locs := hw
  refine lv_aload_n hx hb dX2_init_41 rfl (lv_at hl 0 rfl) ?_
  refine lv_iconst (v := (4 : Int32)) hx hb dX2_init_42 (by decide) ?_
  refine n_newa (U' := [(2, 6), (2, 7), (2, 8), (2, 9), (2, 10), (0, 2), (0, 3), (0, 4), (0, 7), (0, 8), (0, 9), (0, 10)]) (ty := .int) (t := 9) C hw (by decide) rfl (nOk.of (N := ([] : List (Nat × Nat))) (by decide +kernel) (by decide)) wA_9 rfl rfl (Or.inr (Or.inl ⟨rfl, rfl⟩)) (by decide) (by decide) (by decide) (Nat.le_of_ble_eq_true rfl) (Nat.le_of_ble_eq_true rfl) dX2_init_43 (fun ad4 H hE hw => ?_)
  have hE0 : ∀ x, x < 3 ∨ 1000000 ≤ x → ad4 x = ad x := fun x hx => (hE x (by omega)).trans (hE0 x hx)
  rw [show ad3 2 = ad4 2 from (hE 2 (by decide)).symm] at hl
  rw [show ad3 2 = ad4 2 from (hE 2 (by decide)).symm]
  have hw : aW D dA ad4 adV (aGs 7 [(2, 6), (2, 7), (2, 8), (2, 9), (2, 10), (0, 2), (0, 3), (0, 4), (0, 7), (0, 8), (0, 9), (0, 10)] (zR (zR (zR (zR (pI (pI (pI ι 2 0 (0 : Int32)) 2 1 (1 : Int32)) 2 2 (0 : Int32)) 3) 4) 5) 6)) A s H locs := hw
  refine n_putF (U' := [(2, 7), (2, 8), (2, 9), (2, 10), (0, 2), (0, 3), (0, 4), (0, 7), (0, 8), (0, 9), (0, 10)]) (ty := .array .int) (o := 2) (q := 6) (T := TX2) (N := 11) (ty0 := tyX2) C hin wU_X2 tyX2_ok nmX2 hw (by decide) rfl (by decide) rfl 6 (by decide) rfl wF_X2_31 rfl rfl (by decide +kernel) rfl rfl rfl (uDel_1 (U := [(2, 6), (2, 7), (2, 8), (2, 9), (2, 10), (0, 2), (0, 3), (0, 4), (0, 7), (0, 8), (0, 9), (0, 10)])) (uDel_2 (U := [(2, 6), (2, 7), (2, 8), (2, 9), (2, 10), (0, 2), (0, 3), (0, 4), (0, 7), (0, 8), (0, 9), (0, 10)])) dX2_init_45 (fun H locs hw => ?_)
  have hw : aW D dA ad4 adV (aGs 7 [(2, 7), (2, 8), (2, 9), (2, 10), (0, 2), (0, 3), (0, 4), (0, 7), (0, 8), (0, 9), (0, 10)] (zR (zR (zR (zR (pI (pI (pI ι 2 0 (0 : Int32)) 2 1 (1 : Int32)) 2 2 (0 : Int32)) 3) 4) 5) 6)) A s H locs := hw
  refine lv_aload_n hx hb dX2_init_48 rfl (lv_at hl 0 rfl) ?_
  refine lv_bipush (v := (8 : Int32)) hx hb dX2_init_49 (by decide) ?_
  refine n_newa (U' := [(2, 7), (2, 8), (2, 9), (2, 10), (0, 2), (0, 3), (0, 4), (0, 7), (0, 8), (0, 9), (0, 10)]) (ty := .int) (t := 9) C hw (by decide) rfl (nOk.of (N := ([] : List (Nat × Nat))) (by decide +kernel) (by decide)) wA_9 rfl rfl (Or.inr (Or.inl ⟨rfl, rfl⟩)) (by decide) (by decide) (by decide) (Nat.le_of_ble_eq_true rfl) (Nat.le_of_ble_eq_true rfl) dX2_init_51 (fun ad5 H hE hw => ?_)
  have hE0 : ∀ x, x < 3 ∨ 1000000 ≤ x → ad5 x = ad x := fun x hx => (hE x (by omega)).trans (hE0 x hx)
  rw [show ad4 2 = ad5 2 from (hE 2 (by decide)).symm] at hl
  rw [show ad4 2 = ad5 2 from (hE 2 (by decide)).symm]
  have hw : aW D dA ad5 adV (aGs 8 [(2, 7), (2, 8), (2, 9), (2, 10), (0, 2), (0, 3), (0, 4), (0, 7), (0, 8), (0, 9), (0, 10)] (zR (zR (zR (zR (zR (pI (pI (pI ι 2 0 (0 : Int32)) 2 1 (1 : Int32)) 2 2 (0 : Int32)) 3) 4) 5) 6) 7)) A s H locs := hw
  refine n_putF (U' := [(2, 8), (2, 9), (2, 10), (0, 2), (0, 3), (0, 4), (0, 7), (0, 8), (0, 9), (0, 10)]) (ty := .array .int) (o := 2) (q := 7) (T := TX2) (N := 11) (ty0 := tyX2) C hin wU_X2 tyX2_ok nmX2 hw (by decide) rfl (by decide) rfl 7 (by decide) rfl wF_X2_34 rfl rfl (by decide +kernel) rfl rfl rfl (uDel_1 (U := [(2, 7), (2, 8), (2, 9), (2, 10), (0, 2), (0, 3), (0, 4), (0, 7), (0, 8), (0, 9), (0, 10)])) (uDel_2 (U := [(2, 7), (2, 8), (2, 9), (2, 10), (0, 2), (0, 3), (0, 4), (0, 7), (0, 8), (0, 9), (0, 10)])) dX2_init_53 (fun H locs hw => ?_)
  have hw : aW D dA ad5 adV (aGs 8 [(2, 8), (2, 9), (2, 10), (0, 2), (0, 3), (0, 4), (0, 7), (0, 8), (0, 9), (0, 10)] (zR (zR (zR (zR (zR (pI (pI (pI ι 2 0 (0 : Int32)) 2 1 (1 : Int32)) 2 2 (0 : Int32)) 3) 4) 5) 6) 7)) A s H locs := hw
  refine lv_aload_n hx hb dX2_init_56 rfl (lv_at hl 0 rfl) ?_
  refine lv_bipush (v := (16 : Int32)) hx hb dX2_init_57 (by decide) ?_
  refine n_newa (U' := [(2, 8), (2, 9), (2, 10), (0, 2), (0, 3), (0, 4), (0, 7), (0, 8), (0, 9), (0, 10)]) (ty := .int) (t := 9) C hw (by decide) rfl (nOk.of (N := ([] : List (Nat × Nat))) (by decide +kernel) (by decide)) wA_9 rfl rfl (Or.inr (Or.inl ⟨rfl, rfl⟩)) (by decide) (by decide) (by decide) (Nat.le_of_ble_eq_true rfl) (Nat.le_of_ble_eq_true rfl) dX2_init_59 (fun ad6 H hE hw => ?_)
  have hE0 : ∀ x, x < 3 ∨ 1000000 ≤ x → ad6 x = ad x := fun x hx => (hE x (by omega)).trans (hE0 x hx)
  rw [show ad5 2 = ad6 2 from (hE 2 (by decide)).symm] at hl
  rw [show ad5 2 = ad6 2 from (hE 2 (by decide)).symm]
  have hw : aW D dA ad6 adV (aGs 9 [(2, 8), (2, 9), (2, 10), (0, 2), (0, 3), (0, 4), (0, 7), (0, 8), (0, 9), (0, 10)] (zR (zR (zR (zR (zR (zR (pI (pI (pI ι 2 0 (0 : Int32)) 2 1 (1 : Int32)) 2 2 (0 : Int32)) 3) 4) 5) 6) 7) 8)) A s H locs := hw
  refine n_putF (U' := [(2, 9), (2, 10), (0, 2), (0, 3), (0, 4), (0, 7), (0, 8), (0, 9), (0, 10)]) (ty := .array .int) (o := 2) (q := 8) (T := TX2) (N := 11) (ty0 := tyX2) C hin wU_X2 tyX2_ok nmX2 hw (by decide) rfl (by decide) rfl 8 (by decide) rfl wF_X2_37 rfl rfl (by decide +kernel) rfl rfl rfl (uDel_1 (U := [(2, 8), (2, 9), (2, 10), (0, 2), (0, 3), (0, 4), (0, 7), (0, 8), (0, 9), (0, 10)])) (uDel_2 (U := [(2, 8), (2, 9), (2, 10), (0, 2), (0, 3), (0, 4), (0, 7), (0, 8), (0, 9), (0, 10)])) dX2_init_61 (fun H locs hw => ?_)
  have hw : aW D dA ad6 adV (aGs 9 [(2, 9), (2, 10), (0, 2), (0, 3), (0, 4), (0, 7), (0, 8), (0, 9), (0, 10)] (zR (zR (zR (zR (zR (zR (pI (pI (pI ι 2 0 (0 : Int32)) 2 1 (1 : Int32)) 2 2 (0 : Int32)) 3) 4) 5) 6) 7) 8)) A s H locs := hw
  refine lv_aload_n hx hb dX2_init_64 rfl (lv_at hl 0 rfl) ?_
  refine lv_bipush (v := (16 : Int32)) hx hb dX2_init_65 (by decide) ?_
  refine n_newa (U' := [(2, 9), (2, 10), (0, 2), (0, 3), (0, 4), (0, 7), (0, 8), (0, 9), (0, 10)]) (ty := .int) (t := 9) C hw (by decide) rfl (nOk.of (N := ([] : List (Nat × Nat))) (by decide +kernel) (by decide)) wA_9 rfl rfl (Or.inr (Or.inl ⟨rfl, rfl⟩)) (by decide) (by decide) (by decide) (Nat.le_of_ble_eq_true rfl) (Nat.le_of_ble_eq_true rfl) dX2_init_67 (fun ad7 H hE hw => ?_)
  have hE0 : ∀ x, x < 3 ∨ 1000000 ≤ x → ad7 x = ad x := fun x hx => (hE x (by omega)).trans (hE0 x hx)
  rw [show ad6 2 = ad7 2 from (hE 2 (by decide)).symm] at hl
  rw [show ad6 2 = ad7 2 from (hE 2 (by decide)).symm]
  have hw : aW D dA ad7 adV (aGs 10 [(2, 9), (2, 10), (0, 2), (0, 3), (0, 4), (0, 7), (0, 8), (0, 9), (0, 10)] (zR (zR (zR (zR (zR (zR (zR (pI (pI (pI ι 2 0 (0 : Int32)) 2 1 (1 : Int32)) 2 2 (0 : Int32)) 3) 4) 5) 6) 7) 8) 9)) A s H locs := hw
  refine n_putF (U' := [(2, 10), (0, 2), (0, 3), (0, 4), (0, 7), (0, 8), (0, 9), (0, 10)]) (ty := .array .int) (o := 2) (q := 9) (T := TX2) (N := 11) (ty0 := tyX2) C hin wU_X2 tyX2_ok nmX2 hw (by decide) rfl (by decide) rfl 9 (by decide) rfl wF_X2_40 rfl rfl (by decide +kernel) rfl rfl rfl (uDel_1 (U := [(2, 9), (2, 10), (0, 2), (0, 3), (0, 4), (0, 7), (0, 8), (0, 9), (0, 10)])) (uDel_2 (U := [(2, 9), (2, 10), (0, 2), (0, 3), (0, 4), (0, 7), (0, 8), (0, 9), (0, 10)])) dX2_init_69 (fun H locs hw => ?_)
  have hw : aW D dA ad7 adV (aGs 10 [(2, 10), (0, 2), (0, 3), (0, 4), (0, 7), (0, 8), (0, 9), (0, 10)] (zR (zR (zR (zR (zR (zR (zR (pI (pI (pI ι 2 0 (0 : Int32)) 2 1 (1 : Int32)) 2 2 (0 : Int32)) 3) 4) 5) 6) 7) 8) 9)) A s H locs := hw
  refine lv_aload_n hx hb dX2_init_72 rfl (lv_at hl 0 rfl) ?_
  refine lv_bipush (v := (16 : Int32)) hx hb dX2_init_73 (by decide) ?_
  refine n_newa (U' := [(2, 10), (0, 2), (0, 3), (0, 4), (0, 7), (0, 8), (0, 9), (0, 10)]) (ty := .int) (t := 9) C hw (by decide) rfl (nOk.of (N := ([] : List (Nat × Nat))) (by decide +kernel) (by decide)) wA_9 rfl rfl (Or.inr (Or.inl ⟨rfl, rfl⟩)) (by decide) (by decide) (by decide) (Nat.le_of_ble_eq_true rfl) (Nat.le_of_ble_eq_true rfl) dX2_init_75 (fun ad8 H hE hw => ?_)
  have hE0 : ∀ x, x < 3 ∨ 1000000 ≤ x → ad8 x = ad x := fun x hx => (hE x (by omega)).trans (hE0 x hx)
  rw [show ad7 2 = ad8 2 from (hE 2 (by decide)).symm] at hl
  rw [show ad7 2 = ad8 2 from (hE 2 (by decide)).symm]
  have hw : aW D dA ad8 adV (aGs 11 [(2, 10), (0, 2), (0, 3), (0, 4), (0, 7), (0, 8), (0, 9), (0, 10)] (zR (zR (zR (zR (zR (zR (zR (zR (pI (pI (pI ι 2 0 (0 : Int32)) 2 1 (1 : Int32)) 2 2 (0 : Int32)) 3) 4) 5) 6) 7) 8) 9) 10)) A s H locs := hw
  refine n_putF (U' := [(0, 2), (0, 3), (0, 4), (0, 7), (0, 8), (0, 9), (0, 10)]) (ty := .array .int) (o := 2) (q := 10) (T := TX2) (N := 11) (ty0 := tyX2) C hin wU_X2 tyX2_ok nmX2 hw (by decide) rfl (by decide) rfl 10 (by decide) rfl wF_X2_43 rfl rfl (by decide +kernel) rfl rfl rfl (uDel_1 (U := [(2, 10), (0, 2), (0, 3), (0, 4), (0, 7), (0, 8), (0, 9), (0, 10)])) (uDel_2 (U := [(2, 10), (0, 2), (0, 3), (0, 4), (0, 7), (0, 8), (0, 9), (0, 10)])) dX2_init_77 (fun H locs hw => ?_)
  have hw : aW D dA ad8 adV (aGs 11 [(0, 2), (0, 3), (0, 4), (0, 7), (0, 8), (0, 9), (0, 10)] (zR (zR (zR (zR (zR (zR (zR (zR (pI (pI (pI ι 2 0 (0 : Int32)) 2 1 (1 : Int32)) 2 2 (0 : Int32)) 3) 4) 5) 6) 7) 8) 9) 10)) A s H locs := hw
  refine lv_aload_n hx hb dX2_init_80 rfl (lv_at hl 0 rfl) ?_
  obtain ⟨r81, hr81, hM⟩ := h_b hM
  refine a_callV (σ' := aGs 11 [(0, 2), (0, 3), (0, 4), (0, 7), (0, 8), (0, 9), (0, 10)] r81) (v := none) (o := 2) (As := fun ad => []) (rest := []) C hw (cs_X2_clear l (n9 := 11) (U9 := [(0, 2), (0, 3), (0, 4), (0, 7), (0, 8), (0, 9), (0, 10)]) ⟨lin2, by decide, noU (by decide)⟩ hr81) k_X2_clear wM_X2_46 ⟨⟨rfl, rfl⟩, Nat.le_of_ble_eq_true rfl, Nat.le_of_ble_eq_true rfl⟩ rfl (by decide) rfl rfl rfl hl rfl (by decide) dX2_init_81 ⟨Nat.le_of_ble_eq_true rfl, Nat.le_of_ble_eq_true rfl⟩ (fun H locs hw => ?_)
  cases h_e hM
  exact n_ret C hE0 hw dX2_init_84
set_option maxHeartbeats 400000 in
set_option maxRecDepth 100000 in
theorem ci_X2_init_12 (l : Launch) {ι res : iS} (hM : mi_X2 12 ι = some res) : aMn l yX2_init cX2_init 1 rm_X2_init (fun ad => [.ref (ad 12)]) 13 (aGs 13 [(12, 3), (12, 4), (12, 5), (12, 6), (12, 7), (12, 8), (12, 9), (12, 10), (11, 0), (11, 1), (11, 3), (0, 3), (0, 4), (0, 7), (0, 8), (0, 9), (0, 10)] ι) (aGs 21 [(11, 0), (11, 1), (11, 3), (0, 3), (0, 4), (0, 7), (0, 8), (0, 9), (0, 10)] res) 8 150 := by
  refine aMn.of (by decide) rfl (fun _ => Nat.le_of_ble_eq_true rfl) ?_
  intro p e s m args below meth c D dA ad adV A ls C hin hY hw hl
  have C : aX p m c cX2_init 1 s args aTs RX2 meth none := C
  have hx := C.1.1
  have hb := C.1.2.1
  have hown := C.1.2.2.2.1
  have hts := C.1.2.2.2.2
  have hl : lv_has ls 1 [(0, .ref (ad 12))] := hl
  replace hM : (Option.bind (m_X2_clear 12 (zR (zR (zR (zR (zR (zR (zR (zR (pI (pI (pI ι 12 0 (0 : Int32)) 12 1 (1 : Int32)) 12 2 (0 : Int32)) 13) 14) 15) 16) 17) 18) 19) 20)) fun r81 => some r81) = some res := hM
  refine lv_aload_n hx hb dX2_init_0 rfl (lv_at hl 0 rfl) ?_
  refine n_obj C wM_X2_3 hl dX2_init_1 (Nat.le_of_ble_eq_true rfl) (Nat.le_of_ble_eq_true rfl) ?_
  refine lv_aload_n hx hb dX2_init_4 rfl (lv_at hl 0 rfl) ?_
  refine lv_iconst (v := (0 : Int32)) hx hb dX2_init_5 (by decide) ?_
  refine a_puti (ty := .int) (σ := aGs 13 [(12, 3), (12, 4), (12, 5), (12, 6), (12, 7), (12, 8), (12, 9), (12, 10), (11, 0), (11, 1), (11, 3), (0, 3), (0, 4), (0, 7), (0, 8), (0, 9), (0, 10)] ι) (o := 12) (T := TX2) (N := 11) (ty0 := tyX2) C wU_X2 tyX2_ok nmX2 hw rfl (by decide) rfl 0 (by decide) rfl wF_X2_9 rfl (by decide +kernel) rfl rfl dX2_init_6 (fun H locs hw => ?_)
  have hw : aW D dA ad adV (aGs 13 [(12, 3), (12, 4), (12, 5), (12, 6), (12, 7), (12, 8), (12, 9), (12, 10), (11, 0), (11, 1), (11, 3), (0, 3), (0, 4), (0, 7), (0, 8), (0, 9), (0, 10)] (pI ι 12 0 (0 : Int32))) A s H locs := by rw [aGs_PI] at hw; exact hw
  refine lv_aload_n hx hb dX2_init_9 rfl (lv_at hl 0 rfl) ?_
  refine lv_iconst (v := (1 : Int32)) hx hb dX2_init_10 (by decide) ?_
  refine a_puti (ty := .int) (σ := aGs 13 [(12, 3), (12, 4), (12, 5), (12, 6), (12, 7), (12, 8), (12, 9), (12, 10), (11, 0), (11, 1), (11, 3), (0, 3), (0, 4), (0, 7), (0, 8), (0, 9), (0, 10)] (pI ι 12 0 (0 : Int32))) (o := 12) (T := TX2) (N := 11) (ty0 := tyX2) C wU_X2 tyX2_ok nmX2 hw rfl (by decide) rfl 1 (by decide) rfl wF_X2_15 rfl (by decide +kernel) rfl rfl dX2_init_11 (fun H locs hw => ?_)
  have hw : aW D dA ad adV (aGs 13 [(12, 3), (12, 4), (12, 5), (12, 6), (12, 7), (12, 8), (12, 9), (12, 10), (11, 0), (11, 1), (11, 3), (0, 3), (0, 4), (0, 7), (0, 8), (0, 9), (0, 10)] (pI (pI ι 12 0 (0 : Int32)) 12 1 (1 : Int32))) A s H locs := by rw [aGs_PI] at hw; exact hw
  refine lv_aload_n hx hb dX2_init_14 rfl (lv_at hl 0 rfl) ?_
  refine lv_iconst (v := (0 : Int32)) hx hb dX2_init_15 (by decide) ?_
  refine a_puti (ty := .int) (σ := aGs 13 [(12, 3), (12, 4), (12, 5), (12, 6), (12, 7), (12, 8), (12, 9), (12, 10), (11, 0), (11, 1), (11, 3), (0, 3), (0, 4), (0, 7), (0, 8), (0, 9), (0, 10)] (pI (pI ι 12 0 (0 : Int32)) 12 1 (1 : Int32))) (o := 12) (T := TX2) (N := 11) (ty0 := tyX2) C wU_X2 tyX2_ok nmX2 hw rfl (by decide) rfl 2 (by decide) rfl wF_X2_18 rfl (by decide +kernel) rfl rfl dX2_init_16 (fun H locs hw => ?_)
  have hw : aW D dA ad adV (aGs 13 [(12, 3), (12, 4), (12, 5), (12, 6), (12, 7), (12, 8), (12, 9), (12, 10), (11, 0), (11, 1), (11, 3), (0, 3), (0, 4), (0, 7), (0, 8), (0, 9), (0, 10)] (pI (pI (pI ι 12 0 (0 : Int32)) 12 1 (1 : Int32)) 12 2 (0 : Int32))) A s H locs := by rw [aGs_PI] at hw; exact hw
  refine lv_aload_n hx hb dX2_init_19 rfl (lv_at hl 0 rfl) ?_
  refine lv_bipush (v := (80 : Int32)) hx hb dX2_init_20 (by decide) ?_
  refine n_newa (U' := [(12, 3), (12, 4), (12, 5), (12, 6), (12, 7), (12, 8), (12, 9), (12, 10), (11, 0), (11, 1), (11, 3), (0, 3), (0, 4), (0, 7), (0, 8), (0, 9), (0, 10)]) (ty := .int) (t := 9) C hw (by decide) rfl (nOk.of (N := ([] : List (Nat × Nat))) (by decide +kernel) (by decide)) wA_9 rfl rfl (Or.inr (Or.inl ⟨rfl, rfl⟩)) (by decide) (by decide) (by decide) (Nat.le_of_ble_eq_true rfl) (Nat.le_of_ble_eq_true rfl) dX2_init_22 (fun ad1 H hE hw => ?_)
  have hE0 : ∀ x, x < 13 ∨ 1000000 ≤ x → ad1 x = ad x := fun x hx => (hE x (by omega)).trans (rfl)
  rw [show ad 12 = ad1 12 from (hE 12 (by decide)).symm] at hl
  rw [show ad 12 = ad1 12 from (hE 12 (by decide)).symm]
  have hw : aW D dA ad1 adV (aGs 14 [(12, 3), (12, 4), (12, 5), (12, 6), (12, 7), (12, 8), (12, 9), (12, 10), (11, 0), (11, 1), (11, 3), (0, 3), (0, 4), (0, 7), (0, 8), (0, 9), (0, 10)] (zR (pI (pI (pI ι 12 0 (0 : Int32)) 12 1 (1 : Int32)) 12 2 (0 : Int32)) 13)) A s H locs := hw
  refine n_putF (U' := [(12, 4), (12, 5), (12, 6), (12, 7), (12, 8), (12, 9), (12, 10), (11, 0), (11, 1), (11, 3), (0, 3), (0, 4), (0, 7), (0, 8), (0, 9), (0, 10)]) (ty := .array .int) (o := 12) (q := 13) (T := TX2) (N := 11) (ty0 := tyX2) C hin wU_X2 tyX2_ok nmX2 hw (by decide) rfl (by decide) rfl 3 (by decide) rfl wF_X2_21 rfl rfl (by decide +kernel) rfl rfl rfl (uDel_1 (U := [(12, 3), (12, 4), (12, 5), (12, 6), (12, 7), (12, 8), (12, 9), (12, 10), (11, 0), (11, 1), (11, 3), (0, 3), (0, 4), (0, 7), (0, 8), (0, 9), (0, 10)])) (uDel_2 (U := [(12, 3), (12, 4), (12, 5), (12, 6), (12, 7), (12, 8), (12, 9), (12, 10), (11, 0), (11, 1), (11, 3), (0, 3), (0, 4), (0, 7), (0, 8), (0, 9), (0, 10)])) dX2_init_24 (fun H locs hw => ?_)
  have hw : aW D dA ad1 adV (aGs 14 [(12, 4), (12, 5), (12, 6), (12, 7), (12, 8), (12, 9), (12, 10), (11, 0), (11, 1), (11, 3), (0, 3), (0, 4), (0, 7), (0, 8), (0, 9), (0, 10)] (zR (pI (pI (pI ι 12 0 (0 : Int32)) 12 1 (1 : Int32)) 12 2 (0 : Int32)) 13)) A s H locs := hw
  refine lv_aload_n hx hb dX2_init_27 rfl (lv_at hl 0 rfl) ?_
  refine lv_iconst (v := (5 : Int32)) hx hb dX2_init_28 (by decide) ?_
  refine n_newa (U' := [(12, 4), (12, 5), (12, 6), (12, 7), (12, 8), (12, 9), (12, 10), (11, 0), (11, 1), (11, 3), (0, 3), (0, 4), (0, 7), (0, 8), (0, 9), (0, 10)]) (ty := .int) (t := 9) C hw (by decide) rfl (nOk.of (N := ([] : List (Nat × Nat))) (by decide +kernel) (by decide)) wA_9 rfl rfl (Or.inr (Or.inl ⟨rfl, rfl⟩)) (by decide) (by decide) (by decide) (Nat.le_of_ble_eq_true rfl) (Nat.le_of_ble_eq_true rfl) dX2_init_29 (fun ad2 H hE hw => ?_)
  have hE0 : ∀ x, x < 13 ∨ 1000000 ≤ x → ad2 x = ad x := fun x hx => (hE x (by omega)).trans (hE0 x hx)
  rw [show ad1 12 = ad2 12 from (hE 12 (by decide)).symm] at hl
  rw [show ad1 12 = ad2 12 from (hE 12 (by decide)).symm]
  have hw : aW D dA ad2 adV (aGs 15 [(12, 4), (12, 5), (12, 6), (12, 7), (12, 8), (12, 9), (12, 10), (11, 0), (11, 1), (11, 3), (0, 3), (0, 4), (0, 7), (0, 8), (0, 9), (0, 10)] (zR (zR (pI (pI (pI ι 12 0 (0 : Int32)) 12 1 (1 : Int32)) 12 2 (0 : Int32)) 13) 14)) A s H locs := hw
  refine n_putF (U' := [(12, 5), (12, 6), (12, 7), (12, 8), (12, 9), (12, 10), (11, 0), (11, 1), (11, 3), (0, 3), (0, 4), (0, 7), (0, 8), (0, 9), (0, 10)]) (ty := .array .int) (o := 12) (q := 14) (T := TX2) (N := 11) (ty0 := tyX2) C hin wU_X2 tyX2_ok nmX2 hw (by decide) rfl (by decide) rfl 4 (by decide) rfl wF_X2_25 rfl rfl (by decide +kernel) rfl rfl rfl (uDel_1 (U := [(12, 4), (12, 5), (12, 6), (12, 7), (12, 8), (12, 9), (12, 10), (11, 0), (11, 1), (11, 3), (0, 3), (0, 4), (0, 7), (0, 8), (0, 9), (0, 10)])) (uDel_2 (U := [(12, 4), (12, 5), (12, 6), (12, 7), (12, 8), (12, 9), (12, 10), (11, 0), (11, 1), (11, 3), (0, 3), (0, 4), (0, 7), (0, 8), (0, 9), (0, 10)])) dX2_init_31 (fun H locs hw => ?_)
  have hw : aW D dA ad2 adV (aGs 15 [(12, 5), (12, 6), (12, 7), (12, 8), (12, 9), (12, 10), (11, 0), (11, 1), (11, 3), (0, 3), (0, 4), (0, 7), (0, 8), (0, 9), (0, 10)] (zR (zR (pI (pI (pI ι 12 0 (0 : Int32)) 12 1 (1 : Int32)) 12 2 (0 : Int32)) 13) 14)) A s H locs := hw
  refine lv_aload_n hx hb dX2_init_34 rfl (lv_at hl 0 rfl) ?_
  refine lv_iconst (v := (5 : Int32)) hx hb dX2_init_35 (by decide) ?_
  refine n_newa (U' := [(12, 5), (12, 6), (12, 7), (12, 8), (12, 9), (12, 10), (11, 0), (11, 1), (11, 3), (0, 3), (0, 4), (0, 7), (0, 8), (0, 9), (0, 10)]) (ty := .int) (t := 9) C hw (by decide) rfl (nOk.of (N := ([] : List (Nat × Nat))) (by decide +kernel) (by decide)) wA_9 rfl rfl (Or.inr (Or.inl ⟨rfl, rfl⟩)) (by decide) (by decide) (by decide) (Nat.le_of_ble_eq_true rfl) (Nat.le_of_ble_eq_true rfl) dX2_init_36 (fun ad3 H hE hw => ?_)
  have hE0 : ∀ x, x < 13 ∨ 1000000 ≤ x → ad3 x = ad x := fun x hx => (hE x (by omega)).trans (hE0 x hx)
  rw [show ad2 12 = ad3 12 from (hE 12 (by decide)).symm] at hl
  rw [show ad2 12 = ad3 12 from (hE 12 (by decide)).symm]
  have hw : aW D dA ad3 adV (aGs 16 [(12, 5), (12, 6), (12, 7), (12, 8), (12, 9), (12, 10), (11, 0), (11, 1), (11, 3), (0, 3), (0, 4), (0, 7), (0, 8), (0, 9), (0, 10)] (zR (zR (zR (pI (pI (pI ι 12 0 (0 : Int32)) 12 1 (1 : Int32)) 12 2 (0 : Int32)) 13) 14) 15)) A s H locs := hw
  refine n_putF (U' := [(12, 6), (12, 7), (12, 8), (12, 9), (12, 10), (11, 0), (11, 1), (11, 3), (0, 3), (0, 4), (0, 7), (0, 8), (0, 9), (0, 10)]) (ty := .array .int) (o := 12) (q := 15) (T := TX2) (N := 11) (ty0 := tyX2) C hin wU_X2 tyX2_ok nmX2 hw (by decide) rfl (by decide) rfl 5 (by decide) rfl wF_X2_28 rfl rfl (by decide +kernel) rfl rfl rfl (uDel_1 (U := [(12, 5), (12, 6), (12, 7), (12, 8), (12, 9), (12, 10), (11, 0), (11, 1), (11, 3), (0, 3), (0, 4), (0, 7), (0, 8), (0, 9), (0, 10)])) (uDel_2 (U := [(12, 5), (12, 6), (12, 7), (12, 8), (12, 9), (12, 10), (11, 0), (11, 1), (11, 3), (0, 3), (0, 4), (0, 7), (0, 8), (0, 9), (0, 10)])) dX2_init_38 (fun H locs hw => ?_)
  have hw : aW D dA ad3 adV (aGs 16 [(12, 6), (12, 7), (12, 8), (12, 9), (12, 10), (11, 0), (11, 1), (11, 3), (0, 3), (0, 4), (0, 7), (0, 8), (0, 9), (0, 10)] (zR (zR (zR (pI (pI (pI ι 12 0 (0 : Int32)) 12 1 (1 : Int32)) 12 2 (0 : Int32)) 13) 14) 15)) A s H locs := hw
  refine lv_aload_n hx hb dX2_init_41 rfl (lv_at hl 0 rfl) ?_
  refine lv_iconst (v := (4 : Int32)) hx hb dX2_init_42 (by decide) ?_
  refine n_newa (U' := [(12, 6), (12, 7), (12, 8), (12, 9), (12, 10), (11, 0), (11, 1), (11, 3), (0, 3), (0, 4), (0, 7), (0, 8), (0, 9), (0, 10)]) (ty := .int) (t := 9) C hw (by decide) rfl (nOk.of (N := ([] : List (Nat × Nat))) (by decide +kernel) (by decide)) wA_9 rfl rfl (Or.inr (Or.inl ⟨rfl, rfl⟩)) (by decide) (by decide) (by decide) (Nat.le_of_ble_eq_true rfl) (Nat.le_of_ble_eq_true rfl) dX2_init_43 (fun ad4 H hE hw => ?_)
  have hE0 : ∀ x, x < 13 ∨ 1000000 ≤ x → ad4 x = ad x := fun x hx => (hE x (by omega)).trans (hE0 x hx)
  rw [show ad3 12 = ad4 12 from (hE 12 (by decide)).symm] at hl
  rw [show ad3 12 = ad4 12 from (hE 12 (by decide)).symm]
  have hw : aW D dA ad4 adV (aGs 17 [(12, 6), (12, 7), (12, 8), (12, 9), (12, 10), (11, 0), (11, 1), (11, 3), (0, 3), (0, 4), (0, 7), (0, 8), (0, 9), (0, 10)] (zR (zR (zR (zR (pI (pI (pI ι 12 0 (0 : Int32)) 12 1 (1 : Int32)) 12 2 (0 : Int32)) 13) 14) 15) 16)) A s H locs := hw
  refine n_putF (U' := [(12, 7), (12, 8), (12, 9), (12, 10), (11, 0), (11, 1), (11, 3), (0, 3), (0, 4), (0, 7), (0, 8), (0, 9), (0, 10)]) (ty := .array .int) (o := 12) (q := 16) (T := TX2) (N := 11) (ty0 := tyX2) C hin wU_X2 tyX2_ok nmX2 hw (by decide) rfl (by decide) rfl 6 (by decide) rfl wF_X2_31 rfl rfl (by decide +kernel) rfl rfl rfl (uDel_1 (U := [(12, 6), (12, 7), (12, 8), (12, 9), (12, 10), (11, 0), (11, 1), (11, 3), (0, 3), (0, 4), (0, 7), (0, 8), (0, 9), (0, 10)])) (uDel_2 (U := [(12, 6), (12, 7), (12, 8), (12, 9), (12, 10), (11, 0), (11, 1), (11, 3), (0, 3), (0, 4), (0, 7), (0, 8), (0, 9), (0, 10)])) dX2_init_45 (fun H locs hw => ?_)
  have hw : aW D dA ad4 adV (aGs 17 [(12, 7), (12, 8), (12, 9), (12, 10), (11, 0), (11, 1), (11, 3), (0, 3), (0, 4), (0, 7), (0, 8), (0, 9), (0, 10)] (zR (zR (zR (zR (pI (pI (pI ι 12 0 (0 : Int32)) 12 1 (1 : Int32)) 12 2 (0 : Int32)) 13) 14) 15) 16)) A s H locs := hw
  refine lv_aload_n hx hb dX2_init_48 rfl (lv_at hl 0 rfl) ?_
  refine lv_bipush (v := (8 : Int32)) hx hb dX2_init_49 (by decide) ?_
  refine n_newa (U' := [(12, 7), (12, 8), (12, 9), (12, 10), (11, 0), (11, 1), (11, 3), (0, 3), (0, 4), (0, 7), (0, 8), (0, 9), (0, 10)]) (ty := .int) (t := 9) C hw (by decide) rfl (nOk.of (N := ([] : List (Nat × Nat))) (by decide +kernel) (by decide)) wA_9 rfl rfl (Or.inr (Or.inl ⟨rfl, rfl⟩)) (by decide) (by decide) (by decide) (Nat.le_of_ble_eq_true rfl) (Nat.le_of_ble_eq_true rfl) dX2_init_51 (fun ad5 H hE hw => ?_)
  have hE0 : ∀ x, x < 13 ∨ 1000000 ≤ x → ad5 x = ad x := fun x hx => (hE x (by omega)).trans (hE0 x hx)
  rw [show ad4 12 = ad5 12 from (hE 12 (by decide)).symm] at hl
  rw [show ad4 12 = ad5 12 from (hE 12 (by decide)).symm]
  have hw : aW D dA ad5 adV (aGs 18 [(12, 7), (12, 8), (12, 9), (12, 10), (11, 0), (11, 1), (11, 3), (0, 3), (0, 4), (0, 7), (0, 8), (0, 9), (0, 10)] (zR (zR (zR (zR (zR (pI (pI (pI ι 12 0 (0 : Int32)) 12 1 (1 : Int32)) 12 2 (0 : Int32)) 13) 14) 15) 16) 17)) A s H locs := hw
  refine n_putF (U' := [(12, 8), (12, 9), (12, 10), (11, 0), (11, 1), (11, 3), (0, 3), (0, 4), (0, 7), (0, 8), (0, 9), (0, 10)]) (ty := .array .int) (o := 12) (q := 17) (T := TX2) (N := 11) (ty0 := tyX2) C hin wU_X2 tyX2_ok nmX2 hw (by decide) rfl (by decide) rfl 7 (by decide) rfl wF_X2_34 rfl rfl (by decide +kernel) rfl rfl rfl (uDel_1 (U := [(12, 7), (12, 8), (12, 9), (12, 10), (11, 0), (11, 1), (11, 3), (0, 3), (0, 4), (0, 7), (0, 8), (0, 9), (0, 10)])) (uDel_2 (U := [(12, 7), (12, 8), (12, 9), (12, 10), (11, 0), (11, 1), (11, 3), (0, 3), (0, 4), (0, 7), (0, 8), (0, 9), (0, 10)])) dX2_init_53 (fun H locs hw => ?_)
  have hw : aW D dA ad5 adV (aGs 18 [(12, 8), (12, 9), (12, 10), (11, 0), (11, 1), (11, 3), (0, 3), (0, 4), (0, 7), (0, 8), (0, 9), (0, 10)] (zR (zR (zR (zR (zR (pI (pI (pI ι 12 0 (0 : Int32)) 12 1 (1 : Int32)) 12 2 (0 : Int32)) 13) 14) 15) 16) 17)) A s H locs := hw
  refine lv_aload_n hx hb dX2_init_56 rfl (lv_at hl 0 rfl) ?_
  refine lv_bipush (v := (16 : Int32)) hx hb dX2_init_57 (by decide) ?_
  refine n_newa (U' := [(12, 8), (12, 9), (12, 10), (11, 0), (11, 1), (11, 3), (0, 3), (0, 4), (0, 7), (0, 8), (0, 9), (0, 10)]) (ty := .int) (t := 9) C hw (by decide) rfl (nOk.of (N := ([] : List (Nat × Nat))) (by decide +kernel) (by decide)) wA_9 rfl rfl (Or.inr (Or.inl ⟨rfl, rfl⟩)) (by decide) (by decide) (by decide) (Nat.le_of_ble_eq_true rfl) (Nat.le_of_ble_eq_true rfl) dX2_init_59 (fun ad6 H hE hw => ?_)
  have hE0 : ∀ x, x < 13 ∨ 1000000 ≤ x → ad6 x = ad x := fun x hx => (hE x (by omega)).trans (hE0 x hx)
  rw [show ad5 12 = ad6 12 from (hE 12 (by decide)).symm] at hl
  rw [show ad5 12 = ad6 12 from (hE 12 (by decide)).symm]
  have hw : aW D dA ad6 adV (aGs 19 [(12, 8), (12, 9), (12, 10), (11, 0), (11, 1), (11, 3), (0, 3), (0, 4), (0, 7), (0, 8), (0, 9), (0, 10)] (zR (zR (zR (zR (zR (zR (pI (pI (pI ι 12 0 (0 : Int32)) 12 1 (1 : Int32)) 12 2 (0 : Int32)) 13) 14) 15) 16) 17) 18)) A s H locs := hw
  refine n_putF (U' := [(12, 9), (12, 10), (11, 0), (11, 1), (11, 3), (0, 3), (0, 4), (0, 7), (0, 8), (0, 9), (0, 10)]) (ty := .array .int) (o := 12) (q := 18) (T := TX2) (N := 11) (ty0 := tyX2) C hin wU_X2 tyX2_ok nmX2 hw (by decide) rfl (by decide) rfl 8 (by decide) rfl wF_X2_37 rfl rfl (by decide +kernel) rfl rfl rfl (uDel_1 (U := [(12, 8), (12, 9), (12, 10), (11, 0), (11, 1), (11, 3), (0, 3), (0, 4), (0, 7), (0, 8), (0, 9), (0, 10)])) (uDel_2 (U := [(12, 8), (12, 9), (12, 10), (11, 0), (11, 1), (11, 3), (0, 3), (0, 4), (0, 7), (0, 8), (0, 9), (0, 10)])) dX2_init_61 (fun H locs hw => ?_)
  have hw : aW D dA ad6 adV (aGs 19 [(12, 9), (12, 10), (11, 0), (11, 1), (11, 3), (0, 3), (0, 4), (0, 7), (0, 8), (0, 9), (0, 10)] (zR (zR (zR (zR (zR (zR (pI (pI (pI ι 12 0 (0 : Int32)) 12 1 (1 : Int32)) 12 2 (0 : Int32)) 13) 14) 15) 16) 17) 18)) A s H locs := hw
  refine lv_aload_n hx hb dX2_init_64 rfl (lv_at hl 0 rfl) ?_
  refine lv_bipush (v := (16 : Int32)) hx hb dX2_init_65 (by decide) ?_
  refine n_newa (U' := [(12, 9), (12, 10), (11, 0), (11, 1), (11, 3), (0, 3), (0, 4), (0, 7), (0, 8), (0, 9), (0, 10)]) (ty := .int) (t := 9) C hw (by decide) rfl (nOk.of (N := ([] : List (Nat × Nat))) (by decide +kernel) (by decide)) wA_9 rfl rfl (Or.inr (Or.inl ⟨rfl, rfl⟩)) (by decide) (by decide) (by decide) (Nat.le_of_ble_eq_true rfl) (Nat.le_of_ble_eq_true rfl) dX2_init_67 (fun ad7 H hE hw => ?_)
  have hE0 : ∀ x, x < 13 ∨ 1000000 ≤ x → ad7 x = ad x := fun x hx => (hE x (by omega)).trans (hE0 x hx)
  rw [show ad6 12 = ad7 12 from (hE 12 (by decide)).symm] at hl
  rw [show ad6 12 = ad7 12 from (hE 12 (by decide)).symm]
  have hw : aW D dA ad7 adV (aGs 20 [(12, 9), (12, 10), (11, 0), (11, 1), (11, 3), (0, 3), (0, 4), (0, 7), (0, 8), (0, 9), (0, 10)] (zR (zR (zR (zR (zR (zR (zR (pI (pI (pI ι 12 0 (0 : Int32)) 12 1 (1 : Int32)) 12 2 (0 : Int32)) 13) 14) 15) 16) 17) 18) 19)) A s H locs := hw
  refine n_putF (U' := [(12, 10), (11, 0), (11, 1), (11, 3), (0, 3), (0, 4), (0, 7), (0, 8), (0, 9), (0, 10)]) (ty := .array .int) (o := 12) (q := 19) (T := TX2) (N := 11) (ty0 := tyX2) C hin wU_X2 tyX2_ok nmX2 hw (by decide) rfl (by decide) rfl 9 (by decide) rfl wF_X2_40 rfl rfl (by decide +kernel) rfl rfl rfl (uDel_1 (U := [(12, 9), (12, 10), (11, 0), (11, 1), (11, 3), (0, 3), (0, 4), (0, 7), (0, 8), (0, 9), (0, 10)])) (uDel_2 (U := [(12, 9), (12, 10), (11, 0), (11, 1), (11, 3), (0, 3), (0, 4), (0, 7), (0, 8), (0, 9), (0, 10)])) dX2_init_69 (fun H locs hw => ?_)
  have hw : aW D dA ad7 adV (aGs 20 [(12, 10), (11, 0), (11, 1), (11, 3), (0, 3), (0, 4), (0, 7), (0, 8), (0, 9), (0, 10)] (zR (zR (zR (zR (zR (zR (zR (pI (pI (pI ι 12 0 (0 : Int32)) 12 1 (1 : Int32)) 12 2 (0 : Int32)) 13) 14) 15) 16) 17) 18) 19)) A s H locs := hw
  refine lv_aload_n hx hb dX2_init_72 rfl (lv_at hl 0 rfl) ?_
  refine lv_bipush (v := (16 : Int32)) hx hb dX2_init_73 (by decide) ?_
  refine n_newa (U' := [(12, 10), (11, 0), (11, 1), (11, 3), (0, 3), (0, 4), (0, 7), (0, 8), (0, 9), (0, 10)]) (ty := .int) (t := 9) C hw (by decide) rfl (nOk.of (N := ([] : List (Nat × Nat))) (by decide +kernel) (by decide)) wA_9 rfl rfl (Or.inr (Or.inl ⟨rfl, rfl⟩)) (by decide) (by decide) (by decide) (Nat.le_of_ble_eq_true rfl) (Nat.le_of_ble_eq_true rfl) dX2_init_75 (fun ad8 H hE hw => ?_)
  have hE0 : ∀ x, x < 13 ∨ 1000000 ≤ x → ad8 x = ad x := fun x hx => (hE x (by omega)).trans (hE0 x hx)
  rw [show ad7 12 = ad8 12 from (hE 12 (by decide)).symm] at hl
  rw [show ad7 12 = ad8 12 from (hE 12 (by decide)).symm]
  have hw : aW D dA ad8 adV (aGs 21 [(12, 10), (11, 0), (11, 1), (11, 3), (0, 3), (0, 4), (0, 7), (0, 8), (0, 9), (0, 10)] (zR (zR (zR (zR (zR (zR (zR (zR (pI (pI (pI ι 12 0 (0 : Int32)) 12 1 (1 : Int32)) 12 2 (0 : Int32)) 13) 14) 15) 16) 17) 18) 19) 20)) A s H locs := hw
  refine n_putF (U' := [(11, 0), (11, 1), (11, 3), (0, 3), (0, 4), (0, 7), (0, 8), (0, 9), (0, 10)]) (ty := .array .int) (o := 12) (q := 20) (T := TX2) (N := 11) (ty0 := tyX2) C hin wU_X2 tyX2_ok nmX2 hw (by decide) rfl (by decide) rfl 10 (by decide) rfl wF_X2_43 rfl rfl (by decide +kernel) rfl rfl rfl (uDel_1 (U := [(12, 10), (11, 0), (11, 1), (11, 3), (0, 3), (0, 4), (0, 7), (0, 8), (0, 9), (0, 10)])) (uDel_2 (U := [(12, 10), (11, 0), (11, 1), (11, 3), (0, 3), (0, 4), (0, 7), (0, 8), (0, 9), (0, 10)])) dX2_init_77 (fun H locs hw => ?_)
  have hw : aW D dA ad8 adV (aGs 21 [(11, 0), (11, 1), (11, 3), (0, 3), (0, 4), (0, 7), (0, 8), (0, 9), (0, 10)] (zR (zR (zR (zR (zR (zR (zR (zR (pI (pI (pI ι 12 0 (0 : Int32)) 12 1 (1 : Int32)) 12 2 (0 : Int32)) 13) 14) 15) 16) 17) 18) 19) 20)) A s H locs := hw
  refine lv_aload_n hx hb dX2_init_80 rfl (lv_at hl 0 rfl) ?_
  obtain ⟨r81, hr81, hM⟩ := h_b hM
  refine a_callV (σ' := aGs 21 [(11, 0), (11, 1), (11, 3), (0, 3), (0, 4), (0, 7), (0, 8), (0, 9), (0, 10)] r81) (v := none) (o := 12) (As := fun ad => []) (rest := []) C hw (cs_X2_clear l (n9 := 21) (U9 := [(11, 0), (11, 1), (11, 3), (0, 3), (0, 4), (0, 7), (0, 8), (0, 9), (0, 10)]) ⟨lin12, by decide, noU (by decide)⟩ hr81) k_X2_clear wM_X2_46 ⟨⟨rfl, rfl⟩, Nat.le_of_ble_eq_true rfl, Nat.le_of_ble_eq_true rfl⟩ rfl (by decide) rfl rfl rfl hl rfl (by decide) dX2_init_81 ⟨Nat.le_of_ble_eq_true rfl, Nat.le_of_ble_eq_true rfl⟩ (fun H locs hw => ?_)
  cases h_e hM
  exact n_ret C hE0 hw dX2_init_84
def mi_X1 (ι : iS) : Option iS := some (pI (zR (zR ι 22) 23) 21 2 (0 : Int32))
def rm_X1_init : Room := { frames := 1, cells := 2, slots := 516, locals := 12 }
set_option maxHeartbeats 400000 in
set_option maxRecDepth 100000 in
theorem ci_X1_init_21 (l : Launch) {ι res : iS} (hM : mi_X1 ι = some res) : aMn l yX1_init cX1_init 1 rm_X1_init (fun ad => [.ref (ad 21)]) 22 (aGs 22 [(21, 0), (21, 1), (11, 1), (11, 3), (0, 3), (0, 4), (0, 7), (0, 8), (0, 9), (0, 10)] ι) (aGs 24 [(11, 1), (11, 3), (0, 3), (0, 4), (0, 7), (0, 8), (0, 9), (0, 10)] res) 2 516 := by
  refine aMn.of (by decide) rfl (fun _ => Nat.le_of_ble_eq_true rfl) ?_
  intro p e s m args below meth c D dA ad adV A ls C hin hY hw hl
  have C : aX p m c cX1_init 1 s args aTs RX1 meth none := C
  have hx := C.1.1
  have hb := C.1.2.1
  have hown := C.1.2.2.2.1
  have hts := C.1.2.2.2.2
  have hl : lv_has ls 1 [(0, .ref (ad 21))] := hl
  replace hM : (some (pI (zR (zR ι 22) 23) 21 2 (0 : Int32))) = some res := hM
  refine lv_aload_n hx hb dX1_init_0 rfl (lv_at hl 0 rfl) ?_
  refine n_obj C wM_X1_3 hl dX1_init_1 (Nat.le_of_ble_eq_true rfl) (Nat.le_of_ble_eq_true rfl) ?_
  refine lv_aload_n hx hb dX1_init_4 rfl (lv_at hl 0 rfl) ?_
  refine lv_sipush (v := (500 : Int32)) hx hb dX1_init_5 (by decide) ?_
  refine n_newa (U' := [(21, 0), (21, 1), (11, 1), (11, 3), (0, 3), (0, 4), (0, 7), (0, 8), (0, 9), (0, 10)]) (ty := .int) (t := 9) C hw (by decide) rfl (nOk.of (N := ([] : List (Nat × Nat))) (by decide +kernel) (by decide)) wA_9 rfl rfl (Or.inr (Or.inl ⟨rfl, rfl⟩)) (by decide) (by decide) (by decide) (Nat.le_of_ble_eq_true rfl) (Nat.le_of_ble_eq_true rfl) dX1_init_8 (fun ad1 H hE hw => ?_)
  have hE0 : ∀ x, x < 22 ∨ 1000000 ≤ x → ad1 x = ad x := fun x hx => (hE x (by omega)).trans (rfl)
  rw [show ad 21 = ad1 21 from (hE 21 (by decide)).symm] at hl
  rw [show ad 21 = ad1 21 from (hE 21 (by decide)).symm]
  have hw : aW D dA ad1 adV (aGs 23 [(21, 0), (21, 1), (11, 1), (11, 3), (0, 3), (0, 4), (0, 7), (0, 8), (0, 9), (0, 10)] (zR ι 22)) A s H [] := hw
  refine n_putF (U' := [(21, 1), (11, 1), (11, 3), (0, 3), (0, 4), (0, 7), (0, 8), (0, 9), (0, 10)]) (ty := .array .int) (o := 21) (q := 22) (T := TX1) (N := 3) (ty0 := tyX1) C hin wU_X1 tyX1_ok nmX1 hw (by decide) rfl (by decide) rfl 0 (by decide) rfl wF_X1_9 rfl rfl (by decide +kernel) rfl rfl rfl (uDel_1 (U := [(21, 0), (21, 1), (11, 1), (11, 3), (0, 3), (0, 4), (0, 7), (0, 8), (0, 9), (0, 10)])) (uDel_2 (U := [(21, 0), (21, 1), (11, 1), (11, 3), (0, 3), (0, 4), (0, 7), (0, 8), (0, 9), (0, 10)])) dX1_init_10 (fun H locs hw => ?_)
  have hw : aW D dA ad1 adV (aGs 23 [(21, 1), (11, 1), (11, 3), (0, 3), (0, 4), (0, 7), (0, 8), (0, 9), (0, 10)] (zR ι 22)) A s H locs := hw
  refine lv_aload_n hx hb dX1_init_13 rfl (lv_at hl 0 rfl) ?_
  refine lv_bipush (v := (16 : Int32)) hx hb dX1_init_14 (by decide) ?_
  refine n_newa (U' := [(21, 1), (11, 1), (11, 3), (0, 3), (0, 4), (0, 7), (0, 8), (0, 9), (0, 10)]) (ty := .long) (t := 10) C hw (by decide) rfl (nOk.of (N := ([] : List (Nat × Nat))) (by decide +kernel) (by decide)) wA_10 rfl rfl (Or.inr (Or.inr ⟨rfl, rfl⟩)) (by decide) (by decide) (by decide) (Nat.le_of_ble_eq_true rfl) (Nat.le_of_ble_eq_true rfl) dX1_init_16 (fun ad2 H hE hw => ?_)
  have hE0 : ∀ x, x < 22 ∨ 1000000 ≤ x → ad2 x = ad x := fun x hx => (hE x (by omega)).trans (hE0 x hx)
  rw [show ad1 21 = ad2 21 from (hE 21 (by decide)).symm] at hl
  rw [show ad1 21 = ad2 21 from (hE 21 (by decide)).symm]
  have hw : aW D dA ad2 adV (aGs 24 [(21, 1), (11, 1), (11, 3), (0, 3), (0, 4), (0, 7), (0, 8), (0, 9), (0, 10)] (zR (zR ι 22) 23)) A s H locs := hw
  refine n_putF (U' := [(11, 1), (11, 3), (0, 3), (0, 4), (0, 7), (0, 8), (0, 9), (0, 10)]) (ty := .array .long) (o := 21) (q := 23) (T := TX1) (N := 3) (ty0 := tyX1) C hin wU_X1 tyX1_ok nmX1 hw (by decide) rfl (by decide) rfl 1 (by decide) rfl wF_X1_15 rfl rfl (by decide +kernel) rfl rfl rfl (uDel_1 (U := [(21, 1), (11, 1), (11, 3), (0, 3), (0, 4), (0, 7), (0, 8), (0, 9), (0, 10)])) (uDel_2 (U := [(21, 1), (11, 1), (11, 3), (0, 3), (0, 4), (0, 7), (0, 8), (0, 9), (0, 10)])) dX1_init_18 (fun H locs hw => ?_)
  have hw : aW D dA ad2 adV (aGs 24 [(11, 1), (11, 3), (0, 3), (0, 4), (0, 7), (0, 8), (0, 9), (0, 10)] (zR (zR ι 22) 23)) A s H locs := hw
  refine lv_aload_n hx hb dX1_init_21 rfl (lv_at hl 0 rfl) ?_
  refine lv_iconst (v := (0 : Int32)) hx hb dX1_init_22 (by decide) ?_
  refine a_puti (ty := .int) (σ := aGs 24 [(11, 1), (11, 3), (0, 3), (0, 4), (0, 7), (0, 8), (0, 9), (0, 10)] (zR (zR ι 22) 23)) (o := 21) (T := TX1) (N := 3) (ty0 := tyX1) C wU_X1 tyX1_ok nmX1 hw rfl (by decide) rfl 2 (by decide) rfl wF_X1_19 rfl (by decide +kernel) rfl rfl dX1_init_23 (fun H locs hw => ?_)
  have hw : aW D dA ad2 adV (aGs 24 [(11, 1), (11, 3), (0, 3), (0, 4), (0, 7), (0, 8), (0, 9), (0, 10)] (pI (zR (zR ι 22) 23) 21 2 (0 : Int32))) A s H locs := by rw [aGs_PI] at hw; exact hw
  cases h_e hM
  exact n_ret C hE0 hw dX1_init_26
def mi_X4 (ι : iS) : Option iS := some (pI (zR (pI (zR (zR (zR ι 25) 26) 27) 24 3 (0 : Int32)) 28) 24 5 (0 : Int32))
def rm_X4_init : Room := { frames := 1, cells := 4, slots := 1503, locals := 12 }
set_option maxHeartbeats 400000 in
set_option maxRecDepth 100000 in
theorem ci_X4_init_24 (l : Launch) {ι res : iS} (hM : mi_X4 ι = some res) : aMn l yX4_init cX4_init 1 rm_X4_init (fun ad => [.ref (ad 24)]) 25 (aGs 25 [(24, 0), (24, 1), (24, 2), (24, 4), (11, 3), (0, 3), (0, 4), (0, 7), (0, 8), (0, 9), (0, 10)] ι) (aGs 29 [(11, 3), (0, 3), (0, 4), (0, 7), (0, 8), (0, 9), (0, 10)] res) 4 1503 := by
  refine aMn.of (by decide) rfl (fun _ => Nat.le_of_ble_eq_true rfl) ?_
  intro p e s m args below meth c D dA ad adV A ls C hin hY hw hl
  have C : aX p m c cX4_init 1 s args aTs RX4 meth none := C
  have hx := C.1.1
  have hb := C.1.2.1
  have hown := C.1.2.2.2.1
  have hts := C.1.2.2.2.2
  have hl : lv_has ls 1 [(0, .ref (ad 24))] := hl
  replace hM : (some (pI (zR (pI (zR (zR (zR ι 25) 26) 27) 24 3 (0 : Int32)) 28) 24 5 (0 : Int32))) = some res := hM
  refine lv_aload_n hx hb dX4_init_0 rfl (lv_at hl 0 rfl) ?_
  refine n_obj C wM_X4_3 hl dX4_init_1 (Nat.le_of_ble_eq_true rfl) (Nat.le_of_ble_eq_true rfl) ?_
  refine lv_aload_n hx hb dX4_init_4 rfl (lv_at hl 0 rfl) ?_
  refine lv_sipush (v := (501 : Int32)) hx hb dX4_init_5 (by decide) ?_
  refine n_newa (U' := [(24, 0), (24, 1), (24, 2), (24, 4), (11, 3), (0, 3), (0, 4), (0, 7), (0, 8), (0, 9), (0, 10)]) (ty := .int) (t := 9) C hw (by decide) rfl (nOk.of (N := ([] : List (Nat × Nat))) (by decide +kernel) (by decide)) wA_9 rfl rfl (Or.inr (Or.inl ⟨rfl, rfl⟩)) (by decide) (by decide) (by decide) (Nat.le_of_ble_eq_true rfl) (Nat.le_of_ble_eq_true rfl) dX4_init_8 (fun ad1 H hE hw => ?_)
  have hE0 : ∀ x, x < 25 ∨ 1000000 ≤ x → ad1 x = ad x := fun x hx => (hE x (by omega)).trans (rfl)
  rw [show ad 24 = ad1 24 from (hE 24 (by decide)).symm] at hl
  rw [show ad 24 = ad1 24 from (hE 24 (by decide)).symm]
  have hw : aW D dA ad1 adV (aGs 26 [(24, 0), (24, 1), (24, 2), (24, 4), (11, 3), (0, 3), (0, 4), (0, 7), (0, 8), (0, 9), (0, 10)] (zR ι 25)) A s H [] := hw
  refine n_putF (U' := [(24, 1), (24, 2), (24, 4), (11, 3), (0, 3), (0, 4), (0, 7), (0, 8), (0, 9), (0, 10)]) (ty := .array .int) (o := 24) (q := 25) (T := TX4) (N := 6) (ty0 := tyX4) C hin wU_X4 tyX4_ok nmX4 hw (by decide) rfl (by decide) rfl 0 (by decide) rfl wF_X4_9 rfl rfl (by decide +kernel) rfl rfl rfl (uDel_1 (U := [(24, 0), (24, 1), (24, 2), (24, 4), (11, 3), (0, 3), (0, 4), (0, 7), (0, 8), (0, 9), (0, 10)])) (uDel_2 (U := [(24, 0), (24, 1), (24, 2), (24, 4), (11, 3), (0, 3), (0, 4), (0, 7), (0, 8), (0, 9), (0, 10)])) dX4_init_10 (fun H locs hw => ?_)
  have hw : aW D dA ad1 adV (aGs 26 [(24, 1), (24, 2), (24, 4), (11, 3), (0, 3), (0, 4), (0, 7), (0, 8), (0, 9), (0, 10)] (zR ι 25)) A s H locs := hw
  refine lv_aload_n hx hb dX4_init_13 rfl (lv_at hl 0 rfl) ?_
  refine lv_sipush (v := (501 : Int32)) hx hb dX4_init_14 (by decide) ?_
  refine n_newa (U' := [(24, 1), (24, 2), (24, 4), (11, 3), (0, 3), (0, 4), (0, 7), (0, 8), (0, 9), (0, 10)]) (ty := .int) (t := 9) C hw (by decide) rfl (nOk.of (N := ([] : List (Nat × Nat))) (by decide +kernel) (by decide)) wA_9 rfl rfl (Or.inr (Or.inl ⟨rfl, rfl⟩)) (by decide) (by decide) (by decide) (Nat.le_of_ble_eq_true rfl) (Nat.le_of_ble_eq_true rfl) dX4_init_17 (fun ad2 H hE hw => ?_)
  have hE0 : ∀ x, x < 25 ∨ 1000000 ≤ x → ad2 x = ad x := fun x hx => (hE x (by omega)).trans (hE0 x hx)
  rw [show ad1 24 = ad2 24 from (hE 24 (by decide)).symm] at hl
  rw [show ad1 24 = ad2 24 from (hE 24 (by decide)).symm]
  have hw : aW D dA ad2 adV (aGs 27 [(24, 1), (24, 2), (24, 4), (11, 3), (0, 3), (0, 4), (0, 7), (0, 8), (0, 9), (0, 10)] (zR (zR ι 25) 26)) A s H locs := hw
  refine n_putF (U' := [(24, 2), (24, 4), (11, 3), (0, 3), (0, 4), (0, 7), (0, 8), (0, 9), (0, 10)]) (ty := .array .int) (o := 24) (q := 26) (T := TX4) (N := 6) (ty0 := tyX4) C hin wU_X4 tyX4_ok nmX4 hw (by decide) rfl (by decide) rfl 1 (by decide) rfl wF_X4_15 rfl rfl (by decide +kernel) rfl rfl rfl (uDel_1 (U := [(24, 1), (24, 2), (24, 4), (11, 3), (0, 3), (0, 4), (0, 7), (0, 8), (0, 9), (0, 10)])) (uDel_2 (U := [(24, 1), (24, 2), (24, 4), (11, 3), (0, 3), (0, 4), (0, 7), (0, 8), (0, 9), (0, 10)])) dX4_init_19 (fun H locs hw => ?_)
  have hw : aW D dA ad2 adV (aGs 27 [(24, 2), (24, 4), (11, 3), (0, 3), (0, 4), (0, 7), (0, 8), (0, 9), (0, 10)] (zR (zR ι 25) 26)) A s H locs := hw
  refine lv_aload_n hx hb dX4_init_22 rfl (lv_at hl 0 rfl) ?_
  refine lv_sipush (v := (501 : Int32)) hx hb dX4_init_23 (by decide) ?_
  refine n_newa (U' := [(24, 2), (24, 4), (11, 3), (0, 3), (0, 4), (0, 7), (0, 8), (0, 9), (0, 10)]) (ty := .int) (t := 9) C hw (by decide) rfl (nOk.of (N := ([] : List (Nat × Nat))) (by decide +kernel) (by decide)) wA_9 rfl rfl (Or.inr (Or.inl ⟨rfl, rfl⟩)) (by decide) (by decide) (by decide) (Nat.le_of_ble_eq_true rfl) (Nat.le_of_ble_eq_true rfl) dX4_init_26 (fun ad3 H hE hw => ?_)
  have hE0 : ∀ x, x < 25 ∨ 1000000 ≤ x → ad3 x = ad x := fun x hx => (hE x (by omega)).trans (hE0 x hx)
  rw [show ad2 24 = ad3 24 from (hE 24 (by decide)).symm] at hl
  rw [show ad2 24 = ad3 24 from (hE 24 (by decide)).symm]
  have hw : aW D dA ad3 adV (aGs 28 [(24, 2), (24, 4), (11, 3), (0, 3), (0, 4), (0, 7), (0, 8), (0, 9), (0, 10)] (zR (zR (zR ι 25) 26) 27)) A s H locs := hw
  refine n_putF (U' := [(24, 4), (11, 3), (0, 3), (0, 4), (0, 7), (0, 8), (0, 9), (0, 10)]) (ty := .array .int) (o := 24) (q := 27) (T := TX4) (N := 6) (ty0 := tyX4) C hin wU_X4 tyX4_ok nmX4 hw (by decide) rfl (by decide) rfl 2 (by decide) rfl wF_X4_18 rfl rfl (by decide +kernel) rfl rfl rfl (uDel_1 (U := [(24, 2), (24, 4), (11, 3), (0, 3), (0, 4), (0, 7), (0, 8), (0, 9), (0, 10)])) (uDel_2 (U := [(24, 2), (24, 4), (11, 3), (0, 3), (0, 4), (0, 7), (0, 8), (0, 9), (0, 10)])) dX4_init_28 (fun H locs hw => ?_)
  have hw : aW D dA ad3 adV (aGs 28 [(24, 4), (11, 3), (0, 3), (0, 4), (0, 7), (0, 8), (0, 9), (0, 10)] (zR (zR (zR ι 25) 26) 27)) A s H locs := hw
  refine lv_aload_n hx hb dX4_init_31 rfl (lv_at hl 0 rfl) ?_
  refine lv_iconst (v := (0 : Int32)) hx hb dX4_init_32 (by decide) ?_
  refine a_puti (ty := .int) (σ := aGs 28 [(24, 4), (11, 3), (0, 3), (0, 4), (0, 7), (0, 8), (0, 9), (0, 10)] (zR (zR (zR ι 25) 26) 27)) (o := 24) (T := TX4) (N := 6) (ty0 := tyX4) C wU_X4 tyX4_ok nmX4 hw rfl (by decide) rfl 3 (by decide) rfl wF_X4_21 rfl (by decide +kernel) rfl rfl dX4_init_33 (fun H locs hw => ?_)
  have hw : aW D dA ad3 adV (aGs 28 [(24, 4), (11, 3), (0, 3), (0, 4), (0, 7), (0, 8), (0, 9), (0, 10)] (pI (zR (zR (zR ι 25) 26) 27) 24 3 (0 : Int32))) A s H locs := by rw [aGs_PI] at hw; exact hw
  refine lv_aload_n hx hb dX4_init_36 rfl (lv_at hl 0 rfl) ?_
  refine lv_iconst (v := (0 : Int32)) hx hb dX4_init_37 (by decide) ?_
  refine n_newa (U' := [(24, 4), (11, 3), (0, 3), (0, 4), (0, 7), (0, 8), (0, 9), (0, 10)]) (ty := .byte) (t := 8) C hw (by decide) rfl (nOk.of (N := ([] : List (Nat × Nat))) (by decide +kernel) (by decide)) wA_8 rfl rfl (Or.inl ⟨rfl, rfl⟩) (by decide) (by decide) (by decide) (Nat.le_of_ble_eq_true rfl) (Nat.le_of_ble_eq_true rfl) dX4_init_38 (fun ad4 H hE hw => ?_)
  have hE0 : ∀ x, x < 25 ∨ 1000000 ≤ x → ad4 x = ad x := fun x hx => (hE x (by omega)).trans (hE0 x hx)
  rw [show ad3 24 = ad4 24 from (hE 24 (by decide)).symm] at hl
  rw [show ad3 24 = ad4 24 from (hE 24 (by decide)).symm]
  have hw : aW D dA ad4 adV (aGs 29 [(24, 4), (11, 3), (0, 3), (0, 4), (0, 7), (0, 8), (0, 9), (0, 10)] (zR (pI (zR (zR (zR ι 25) 26) 27) 24 3 (0 : Int32)) 28)) A s H locs := hw
  refine n_putp (U' := [(11, 3), (0, 3), (0, 4), (0, 7), (0, 8), (0, 9), (0, 10)]) (ty := .array .byte) (o := 24) (q := 28) (T := TX4) (N := 6) (ty0 := tyX4) C wU_X4 tyX4_ok nmX4 hw (by decide) rfl (by decide) rfl 4 (by decide) rfl wF_X4_25 rfl (by decide +kernel) rfl rfl rfl (uDel_1 (U := [(24, 4), (11, 3), (0, 3), (0, 4), (0, 7), (0, 8), (0, 9), (0, 10)])) (uDel_2 (U := [(24, 4), (11, 3), (0, 3), (0, 4), (0, 7), (0, 8), (0, 9), (0, 10)])) dX4_init_40 (fun H locs hw => ?_)
  have hw : aW D dA ad4 adV (aGs 29 [(11, 3), (0, 3), (0, 4), (0, 7), (0, 8), (0, 9), (0, 10)] (zR (pI (zR (zR (zR ι 25) 26) 27) 24 3 (0 : Int32)) 28)) A s H locs := hw
  refine lv_aload_n hx hb dX4_init_43 rfl (lv_at hl 0 rfl) ?_
  refine lv_iconst (v := (0 : Int32)) hx hb dX4_init_44 (by decide) ?_
  refine a_puti (ty := .int) (σ := aGs 29 [(11, 3), (0, 3), (0, 4), (0, 7), (0, 8), (0, 9), (0, 10)] (zR (pI (zR (zR (zR ι 25) 26) 27) 24 3 (0 : Int32)) 28)) (o := 24) (T := TX4) (N := 6) (ty0 := tyX4) C wU_X4 tyX4_ok nmX4 hw rfl (by decide) rfl 5 (by decide) rfl wF_X4_29 rfl (by decide +kernel) rfl rfl dX4_init_45 (fun H locs hw => ?_)
  have hw : aW D dA ad4 adV (aGs 29 [(11, 3), (0, 3), (0, 4), (0, 7), (0, 8), (0, 9), (0, 10)] (pI (zR (pI (zR (zR (zR ι 25) 26) 27) 24 3 (0 : Int32)) 28) 24 5 (0 : Int32))) A s H locs := by rw [aGs_PI] at hw; exact hw
  cases h_e hM
  exact n_ret C hE0 hw dX4_init_48
def mi_X3 (ι : iS) : Option iS := Option.bind (mi_X2 12 (zR ι 12)) fun r9_12 => Option.bind (mi_X1 (zR r9_12 21)) fun r20_21 => Option.bind (mi_X4 (zR (pI r20_21 11 2 (-1 : Int32)) 24)) fun r36_24 => some (pI (pI (pI r36_24 11 4 (0 : Int32)) 11 5 (0 : Int32)) 11 6 (0 : Int32))
def rm_X3_init : Room := { frames := 2, cells := 17, slots := 2189, locals := 41 }
set_option maxHeartbeats 400000 in
set_option maxRecDepth 100000 in
theorem ci_X3_init_11 (l : Launch) {ι res : iS} (hM : mi_X3 ι = some res) : aMn l yX3_init cX3_init 1 rm_X3_init (fun ad => [.ref (ad 11)]) 12 (aGs 12 [(11, 0), (11, 1), (11, 3), (0, 3), (0, 4), (0, 7), (0, 8), (0, 9), (0, 10)] ι) (aGs 29 [(0, 3), (0, 4), (0, 7), (0, 8), (0, 9), (0, 10)] res) 17 2189 := by
  refine aMn.of (by decide) rfl (fun _ => Nat.le_of_ble_eq_true rfl) ?_
  intro p e s m args below meth c D dA ad adV A ls C hin hY hw hl
  have C : aX p m c cX3_init 1 s args aTs RX3 meth none := C
  have hx := C.1.1
  have hb := C.1.2.1
  have hown := C.1.2.2.2.1
  have hts := C.1.2.2.2.2
  have hl : lv_has ls 1 [(0, .ref (ad 11))] := hl
  replace hM : (Option.bind (mi_X2 12 (zR ι 12)) fun r9_12 => Option.bind (mi_X1 (zR r9_12 21)) fun r20_21 => Option.bind (mi_X4 (zR (pI r20_21 11 2 (-1 : Int32)) 24)) fun r36_24 => some (pI (pI (pI r36_24 11 4 (0 : Int32)) 11 5 (0 : Int32)) 11 6 (0 : Int32))) = some res := hM
  refine lv_aload_n hx hb dX3_init_0 rfl (lv_at hl 0 rfl) ?_
  refine n_obj C wM_X3_3 hl dX3_init_1 (Nat.le_of_ble_eq_true rfl) (Nat.le_of_ble_eq_true rfl) ?_
  refine lv_aload_n hx hb dX3_init_4 rfl (lv_at hl 0 rfl) ?_
  refine n_new (U' := [(12, 3), (12, 4), (12, 5), (12, 6), (12, 7), (12, 8), (12, 9), (12, 10), (11, 0), (11, 1), (11, 3), (0, 3), (0, 4), (0, 7), (0, 8), (0, 9), (0, 10)]) (ci := 2) (T := TX2) (N := 11) (ty0 := tyX2) C wU_X2 tyX2_ok hw (by decide) rfl (by decide) rfl (nOk.of (N := [(12, 3), (12, 4), (12, 5), (12, 6), (12, 7), (12, 8), (12, 9), (12, 10)]) (by decide +kernel) (by decide)) (by decide) dv_X2 wK_X3_9 wN_X2 wZ_X2 (Nat.le_of_ble_eq_true rfl) (Nat.le_of_ble_eq_true rfl) dX3_init_5 (fun ad1 H hE hw => ?_)
  have hE0 : ∀ x, x < 12 ∨ 1000000 ≤ x → ad1 x = ad x := fun x hx => (hE x (by omega)).trans (rfl)
  rw [show ad 11 = ad1 11 from (hE 11 (by decide)).symm] at hl
  rw [show ad 11 = ad1 11 from (hE 11 (by decide)).symm]
  have hw : aW D dA ad1 adV (aGs 13 [(12, 3), (12, 4), (12, 5), (12, 6), (12, 7), (12, 8), (12, 9), (12, 10), (11, 0), (11, 1), (11, 3), (0, 3), (0, 4), (0, 7), (0, 8), (0, 9), (0, 10)] (zR ι 12)) A s H [] := hw
  refine lv_dup hx hb dX3_init_8 rfl ?_
  obtain ⟨r9_12, hr9_12, hM⟩ := h_b hM
  refine n_callI (σ' := aGs 21 [(11, 0), (11, 1), (11, 3), (0, 3), (0, 4), (0, 7), (0, 8), (0, 9), (0, 10)] r9_12) (o := 12) (rest := [.ref (ad1 12), .ref (ad1 11)]) C hY hw (ci_X2_init_12 l hr9_12) ki_X2_init wM_X3_11 ⟨⟨rfl, rfl⟩, Nat.le_of_ble_eq_true rfl, Nat.le_of_ble_eq_true rfl⟩ hl (Nat.le_of_ble_eq_true rfl) dX3_init_9 ⟨Nat.le_of_ble_eq_true rfl, Nat.le_of_ble_eq_true rfl⟩ (fun ad2 H locs hE hw => ?_)
  have hE0 : ∀ x, x < 12 ∨ 1000000 ≤ x → ad2 x = ad x := fun x hx => (hE x (by omega)).trans (hE0 x hx)
  rw [show ad1 11 = ad2 11 from (hE 11 (by decide)).symm] at hl
  rw [show ad1 11 = ad2 11 from (hE 11 (by decide)).symm]
  rw [show ad1 12 = ad2 12 from (hE 12 (by decide)).symm]
  refine n_putF (U' := [(11, 1), (11, 3), (0, 3), (0, 4), (0, 7), (0, 8), (0, 9), (0, 10)]) (ty := .object "LineupDesk$Lineup") (o := 11) (q := 12) (T := TX3) (N := 7) (ty0 := tyX3) C hin wU_X3 tyX3_ok nmX3 hw (by decide) rfl (by decide) rfl 0 (by decide) rfl wF_X3_12 rfl rfl (by decide +kernel) rfl rfl rfl (uDel_1 (U := [(11, 0), (11, 1), (11, 3), (0, 3), (0, 4), (0, 7), (0, 8), (0, 9), (0, 10)])) (uDel_2 (U := [(11, 0), (11, 1), (11, 3), (0, 3), (0, 4), (0, 7), (0, 8), (0, 9), (0, 10)])) dX3_init_12 (fun H locs hw => ?_)
  have hw : aW D dA ad2 adV (aGs 21 [(11, 1), (11, 3), (0, 3), (0, 4), (0, 7), (0, 8), (0, 9), (0, 10)] r9_12) A s H locs := hw
  refine lv_aload_n hx hb dX3_init_15 rfl (lv_at hl 0 rfl) ?_
  refine n_new (U' := [(21, 0), (21, 1), (11, 1), (11, 3), (0, 3), (0, 4), (0, 7), (0, 8), (0, 9), (0, 10)]) (ci := 1) (T := TX1) (N := 3) (ty0 := tyX1) C wU_X1 tyX1_ok hw (by decide) rfl (by decide) rfl (nOk.of (N := [(21, 0), (21, 1)]) (by decide +kernel) (by decide)) (by decide) dv_X1 wK_X3_18 wN_X1 wZ_X1 (Nat.le_of_ble_eq_true rfl) (Nat.le_of_ble_eq_true rfl) dX3_init_16 (fun ad3 H hE hw => ?_)
  have hE0 : ∀ x, x < 12 ∨ 1000000 ≤ x → ad3 x = ad x := fun x hx => (hE x (by omega)).trans (hE0 x hx)
  rw [show ad2 11 = ad3 11 from (hE 11 (by decide)).symm] at hl
  rw [show ad2 11 = ad3 11 from (hE 11 (by decide)).symm]
  have hw : aW D dA ad3 adV (aGs 22 [(21, 0), (21, 1), (11, 1), (11, 3), (0, 3), (0, 4), (0, 7), (0, 8), (0, 9), (0, 10)] (zR r9_12 21)) A s H locs := hw
  refine lv_dup hx hb dX3_init_19 rfl ?_
  obtain ⟨r20_21, hr20_21, hM⟩ := h_b hM
  refine n_callIN (σ' := aGs 24 [(11, 1), (11, 3), (0, 3), (0, 4), (0, 7), (0, 8), (0, 9), (0, 10)] r20_21) (o := 21) (rest := [.ref (ad3 21), .ref (ad3 11)]) C hY hw (ci_X1_init_21 l hr20_21) ki_X1_init (host := "LineupDesk") (by decide) ⟨⟨rfl, rfl⟩, Nat.le_of_ble_eq_true rfl, Nat.le_of_ble_eq_true rfl⟩ hl (Nat.le_of_ble_eq_true rfl) dX3_init_20 ⟨Nat.le_of_ble_eq_true rfl, Nat.le_of_ble_eq_true rfl⟩ (fun ad4 H locs hE hw => ?_)
  have hE0 : ∀ x, x < 12 ∨ 1000000 ≤ x → ad4 x = ad x := fun x hx => (hE x (by omega)).trans (hE0 x hx)
  rw [show ad3 11 = ad4 11 from (hE 11 (by decide)).symm] at hl
  rw [show ad3 11 = ad4 11 from (hE 11 (by decide)).symm]
  rw [show ad3 21 = ad4 21 from (hE 21 (by decide)).symm]
  refine n_putF (U' := [(11, 3), (0, 3), (0, 4), (0, 7), (0, 8), (0, 9), (0, 10)]) (ty := .object "LineupDesk$Formula") (o := 11) (q := 21) (T := TX3) (N := 7) (ty0 := tyX3) C hin wU_X3 tyX3_ok nmX3 hw (by decide) rfl (by decide) rfl 1 (by decide) rfl wF_X3_21 rfl rfl (by decide +kernel) rfl rfl rfl (uDel_1 (U := [(11, 1), (11, 3), (0, 3), (0, 4), (0, 7), (0, 8), (0, 9), (0, 10)])) (uDel_2 (U := [(11, 1), (11, 3), (0, 3), (0, 4), (0, 7), (0, 8), (0, 9), (0, 10)])) dX3_init_23 (fun H locs hw => ?_)
  have hw : aW D dA ad4 adV (aGs 24 [(11, 3), (0, 3), (0, 4), (0, 7), (0, 8), (0, 9), (0, 10)] r20_21) A s H locs := hw
  refine lv_aload_n hx hb dX3_init_26 rfl (lv_at hl 0 rfl) ?_
  refine lv_iconst (v := (-1 : Int32)) hx hb dX3_init_27 (by decide) ?_
  refine a_puti (ty := .int) (σ := aGs 24 [(11, 3), (0, 3), (0, 4), (0, 7), (0, 8), (0, 9), (0, 10)] r20_21) (o := 11) (T := TX3) (N := 7) (ty0 := tyX3) C wU_X3 tyX3_ok nmX3 hw rfl (by decide) rfl 2 (by decide) rfl wF_X3_25 rfl (by decide +kernel) rfl rfl dX3_init_28 (fun H locs hw => ?_)
  have hw : aW D dA ad4 adV (aGs 24 [(11, 3), (0, 3), (0, 4), (0, 7), (0, 8), (0, 9), (0, 10)] (pI r20_21 11 2 (-1 : Int32))) A s H locs := by rw [aGs_PI] at hw; exact hw
  refine lv_aload_n hx hb dX3_init_31 rfl (lv_at hl 0 rfl) ?_
  refine n_new (U' := [(24, 0), (24, 1), (24, 2), (24, 4), (11, 3), (0, 3), (0, 4), (0, 7), (0, 8), (0, 9), (0, 10)]) (ci := 4) (T := TX4) (N := 6) (ty0 := tyX4) C wU_X4 tyX4_ok hw (by decide) rfl (by decide) rfl (nOk.of (N := [(24, 0), (24, 1), (24, 2), (24, 4)]) (by decide +kernel) (by decide)) (by decide) dv_X4 wK_X3_29 wN_X4 wZ_X4 (Nat.le_of_ble_eq_true rfl) (Nat.le_of_ble_eq_true rfl) dX3_init_32 (fun ad5 H hE hw => ?_)
  have hE0 : ∀ x, x < 12 ∨ 1000000 ≤ x → ad5 x = ad x := fun x hx => (hE x (by omega)).trans (hE0 x hx)
  rw [show ad4 11 = ad5 11 from (hE 11 (by decide)).symm] at hl
  rw [show ad4 11 = ad5 11 from (hE 11 (by decide)).symm]
  have hw : aW D dA ad5 adV (aGs 25 [(24, 0), (24, 1), (24, 2), (24, 4), (11, 3), (0, 3), (0, 4), (0, 7), (0, 8), (0, 9), (0, 10)] (zR (pI r20_21 11 2 (-1 : Int32)) 24)) A s H locs := hw
  refine lv_dup hx hb dX3_init_35 rfl ?_
  obtain ⟨r36_24, hr36_24, hM⟩ := h_b hM
  refine n_callIN (σ' := aGs 29 [(11, 3), (0, 3), (0, 4), (0, 7), (0, 8), (0, 9), (0, 10)] r36_24) (o := 24) (rest := [.ref (ad5 24), .ref (ad5 11)]) C hY hw (ci_X4_init_24 l hr36_24) ki_X4_init (host := "LineupDesk") (by decide) ⟨⟨rfl, rfl⟩, Nat.le_of_ble_eq_true rfl, Nat.le_of_ble_eq_true rfl⟩ hl (Nat.le_of_ble_eq_true rfl) dX3_init_36 ⟨Nat.le_of_ble_eq_true rfl, Nat.le_of_ble_eq_true rfl⟩ (fun ad6 H locs hE hw => ?_)
  have hE0 : ∀ x, x < 12 ∨ 1000000 ≤ x → ad6 x = ad x := fun x hx => (hE x (by omega)).trans (hE0 x hx)
  rw [show ad5 11 = ad6 11 from (hE 11 (by decide)).symm] at hl
  rw [show ad5 11 = ad6 11 from (hE 11 (by decide)).symm]
  rw [show ad5 24 = ad6 24 from (hE 24 (by decide)).symm]
  refine n_putF (U' := [(0, 3), (0, 4), (0, 7), (0, 8), (0, 9), (0, 10)]) (ty := .object "LineupDesk$Tokens") (o := 11) (q := 24) (T := TX3) (N := 7) (ty0 := tyX3) C hin wU_X3 tyX3_ok nmX3 hw (by decide) rfl (by decide) rfl 3 (by decide) rfl wF_X3_32 rfl rfl (by decide +kernel) rfl rfl rfl (uDel_1 (U := [(11, 3), (0, 3), (0, 4), (0, 7), (0, 8), (0, 9), (0, 10)])) (uDel_2 (U := [(11, 3), (0, 3), (0, 4), (0, 7), (0, 8), (0, 9), (0, 10)])) dX3_init_39 (fun H locs hw => ?_)
  have hw : aW D dA ad6 adV (aGs 29 [(0, 3), (0, 4), (0, 7), (0, 8), (0, 9), (0, 10)] r36_24) A s H locs := hw
  refine lv_aload_n hx hb dX3_init_42 rfl (lv_at hl 0 rfl) ?_
  refine lv_iconst (v := (0 : Int32)) hx hb dX3_init_43 (by decide) ?_
  refine a_puti (ty := .int) (σ := aGs 29 [(0, 3), (0, 4), (0, 7), (0, 8), (0, 9), (0, 10)] r36_24) (o := 11) (T := TX3) (N := 7) (ty0 := tyX3) C wU_X3 tyX3_ok nmX3 hw rfl (by decide) rfl 4 (by decide) rfl wF_X3_36 rfl (by decide +kernel) rfl rfl dX3_init_44 (fun H locs hw => ?_)
  have hw : aW D dA ad6 adV (aGs 29 [(0, 3), (0, 4), (0, 7), (0, 8), (0, 9), (0, 10)] (pI r36_24 11 4 (0 : Int32))) A s H locs := by rw [aGs_PI] at hw; exact hw
  refine lv_aload_n hx hb dX3_init_47 rfl (lv_at hl 0 rfl) ?_
  refine lv_iconst (v := (0 : Int32)) hx hb dX3_init_48 (by decide) ?_
  refine a_puti (ty := .int) (σ := aGs 29 [(0, 3), (0, 4), (0, 7), (0, 8), (0, 9), (0, 10)] (pI r36_24 11 4 (0 : Int32))) (o := 11) (T := TX3) (N := 7) (ty0 := tyX3) C wU_X3 tyX3_ok nmX3 hw rfl (by decide) rfl 5 (by decide) rfl wF_X3_39 rfl (by decide +kernel) rfl rfl dX3_init_49 (fun H locs hw => ?_)
  have hw : aW D dA ad6 adV (aGs 29 [(0, 3), (0, 4), (0, 7), (0, 8), (0, 9), (0, 10)] (pI (pI r36_24 11 4 (0 : Int32)) 11 5 (0 : Int32))) A s H locs := by rw [aGs_PI] at hw; exact hw
  refine lv_aload_n hx hb dX3_init_52 rfl (lv_at hl 0 rfl) ?_
  refine lv_iconst (v := (0 : Int32)) hx hb dX3_init_53 (by decide) ?_
  refine a_puti (ty := .int) (σ := aGs 29 [(0, 3), (0, 4), (0, 7), (0, 8), (0, 9), (0, 10)] (pI (pI r36_24 11 4 (0 : Int32)) 11 5 (0 : Int32))) (o := 11) (T := TX3) (N := 7) (ty0 := tyX3) C wU_X3 tyX3_ok nmX3 hw rfl (by decide) rfl 6 (by decide) rfl wF_X3_42 rfl (by decide +kernel) rfl rfl dX3_init_54 (fun H locs hw => ?_)
  have hw : aW D dA ad6 adV (aGs 29 [(0, 3), (0, 4), (0, 7), (0, 8), (0, 9), (0, 10)] (pI (pI (pI r36_24 11 4 (0 : Int32)) 11 5 (0 : Int32)) 11 6 (0 : Int32))) A s H locs := by rw [aGs_PI] at hw; exact hw
  cases h_e hM
  exact n_ret C hE0 hw dX3_init_57
def mi_X5 (o : Nat) (ι : iS) : Option iS := some (pI (pI (pI (zR (pI ι o 0 (0 : Int32)) (o + 1)) o 2 (0 : Int32)) o 3 (0 : Int32)) o 4 (1 : Int32))
def rm_X5_init : Room := { frames := 1, cells := 1, slots := 8, locals := 12 }
set_option maxHeartbeats 400000 in
set_option maxRecDepth 100000 in
theorem ci_X5_init_31 (l : Launch) {ι res : iS} (hM : mi_X5 31 ι = some res) : aMn l yX5_init cX5_init 1 rm_X5_init (fun ad => [.ref (ad 31)]) 32 (aGs 32 [(31, 1), (29, 0), (29, 1), (29, 2), (29, 3), (29, 4), (29, 5), (29, 6), (29, 7), (0, 8), (0, 9), (0, 10)] ι) (aGs 33 [(29, 0), (29, 1), (29, 2), (29, 3), (29, 4), (29, 5), (29, 6), (29, 7), (0, 8), (0, 9), (0, 10)] res) 1 8 := by
  refine aMn.of (by decide) rfl (fun _ => Nat.le_of_ble_eq_true rfl) ?_
  intro p e s m args below meth c D dA ad adV A ls C hin hY hw hl
  have C : aX p m c cX5_init 1 s args aTs RX5 meth none := C
  have hx := C.1.1
  have hb := C.1.2.1
  have hown := C.1.2.2.2.1
  have hts := C.1.2.2.2.2
  have hl : lv_has ls 1 [(0, .ref (ad 31))] := hl
  replace hM : (some (pI (pI (pI (zR (pI ι 31 0 (0 : Int32)) 32) 31 2 (0 : Int32)) 31 3 (0 : Int32)) 31 4 (1 : Int32))) = some res := hM
  refine lv_aload_n hx hb dX5_init_0 rfl (lv_at hl 0 rfl) ?_
  refine n_obj C wM_X5_3 hl dX5_init_1 (Nat.le_of_ble_eq_true rfl) (Nat.le_of_ble_eq_true rfl) ?_
  refine lv_aload_n hx hb dX5_init_4 rfl (lv_at hl 0 rfl) ?_
  refine lv_iconst (v := (0 : Int32)) hx hb dX5_init_5 (by decide) ?_
  refine a_puti (ty := .int) (σ := aGs 32 [(31, 1), (29, 0), (29, 1), (29, 2), (29, 3), (29, 4), (29, 5), (29, 6), (29, 7), (0, 8), (0, 9), (0, 10)] ι) (o := 31) (T := TX5) (N := 5) (ty0 := tyX5) C wU_X5 tyX5_ok nmX5 hw rfl (by decide) rfl 0 (by decide) rfl wF_X5_9 rfl (by decide +kernel) rfl rfl dX5_init_6 (fun H locs hw => ?_)
  have hw : aW D dA ad adV (aGs 32 [(31, 1), (29, 0), (29, 1), (29, 2), (29, 3), (29, 4), (29, 5), (29, 6), (29, 7), (0, 8), (0, 9), (0, 10)] (pI ι 31 0 (0 : Int32))) A s H locs := by rw [aGs_PI] at hw; exact hw
  refine lv_aload_n hx hb dX5_init_9 rfl (lv_at hl 0 rfl) ?_
  refine lv_bipush (v := (8 : Int32)) hx hb dX5_init_10 (by decide) ?_
  refine n_newa (U' := [(31, 1), (29, 0), (29, 1), (29, 2), (29, 3), (29, 4), (29, 5), (29, 6), (29, 7), (0, 8), (0, 9), (0, 10)]) (ty := .int) (t := 9) C hw (by decide) rfl (nOk.of (N := ([] : List (Nat × Nat))) (by decide +kernel) (by decide)) wA_9 rfl rfl (Or.inr (Or.inl ⟨rfl, rfl⟩)) (by decide) (by decide) (by decide) (Nat.le_of_ble_eq_true rfl) (Nat.le_of_ble_eq_true rfl) dX5_init_12 (fun ad1 H hE hw => ?_)
  have hE0 : ∀ x, x < 32 ∨ 1000000 ≤ x → ad1 x = ad x := fun x hx => (hE x (by omega)).trans (rfl)
  rw [show ad 31 = ad1 31 from (hE 31 (by decide)).symm] at hl
  rw [show ad 31 = ad1 31 from (hE 31 (by decide)).symm]
  have hw : aW D dA ad1 adV (aGs 33 [(31, 1), (29, 0), (29, 1), (29, 2), (29, 3), (29, 4), (29, 5), (29, 6), (29, 7), (0, 8), (0, 9), (0, 10)] (zR (pI ι 31 0 (0 : Int32)) 32)) A s H locs := hw
  refine n_putF (U' := [(29, 0), (29, 1), (29, 2), (29, 3), (29, 4), (29, 5), (29, 6), (29, 7), (0, 8), (0, 9), (0, 10)]) (ty := .array .int) (o := 31) (q := 32) (T := TX5) (N := 5) (ty0 := tyX5) C hin wU_X5 tyX5_ok nmX5 hw (by decide) rfl (by decide) rfl 1 (by decide) rfl wF_X5_15 rfl rfl (by decide +kernel) rfl rfl rfl (uDel_1 (U := [(31, 1), (29, 0), (29, 1), (29, 2), (29, 3), (29, 4), (29, 5), (29, 6), (29, 7), (0, 8), (0, 9), (0, 10)])) (uDel_2 (U := [(31, 1), (29, 0), (29, 1), (29, 2), (29, 3), (29, 4), (29, 5), (29, 6), (29, 7), (0, 8), (0, 9), (0, 10)])) dX5_init_14 (fun H locs hw => ?_)
  have hw : aW D dA ad1 adV (aGs 33 [(29, 0), (29, 1), (29, 2), (29, 3), (29, 4), (29, 5), (29, 6), (29, 7), (0, 8), (0, 9), (0, 10)] (zR (pI ι 31 0 (0 : Int32)) 32)) A s H locs := hw
  refine lv_aload_n hx hb dX5_init_17 rfl (lv_at hl 0 rfl) ?_
  refine lv_iconst (v := (0 : Int32)) hx hb dX5_init_18 (by decide) ?_
  refine a_puti (ty := .int) (σ := aGs 33 [(29, 0), (29, 1), (29, 2), (29, 3), (29, 4), (29, 5), (29, 6), (29, 7), (0, 8), (0, 9), (0, 10)] (zR (pI ι 31 0 (0 : Int32)) 32)) (o := 31) (T := TX5) (N := 5) (ty0 := tyX5) C wU_X5 tyX5_ok nmX5 hw rfl (by decide) rfl 2 (by decide) rfl wF_X5_19 rfl (by decide +kernel) rfl rfl dX5_init_19 (fun H locs hw => ?_)
  have hw : aW D dA ad1 adV (aGs 33 [(29, 0), (29, 1), (29, 2), (29, 3), (29, 4), (29, 5), (29, 6), (29, 7), (0, 8), (0, 9), (0, 10)] (pI (zR (pI ι 31 0 (0 : Int32)) 32) 31 2 (0 : Int32))) A s H locs := by rw [aGs_PI] at hw; exact hw
  refine lv_aload_n hx hb dX5_init_22 rfl (lv_at hl 0 rfl) ?_
  refine lv_iconst (v := (0 : Int32)) hx hb dX5_init_23 (by decide) ?_
  refine a_puti (ty := .int) (σ := aGs 33 [(29, 0), (29, 1), (29, 2), (29, 3), (29, 4), (29, 5), (29, 6), (29, 7), (0, 8), (0, 9), (0, 10)] (pI (zR (pI ι 31 0 (0 : Int32)) 32) 31 2 (0 : Int32))) (o := 31) (T := TX5) (N := 5) (ty0 := tyX5) C wU_X5 tyX5_ok nmX5 hw rfl (by decide) rfl 3 (by decide) rfl wF_X5_22 rfl (by decide +kernel) rfl rfl dX5_init_24 (fun H locs hw => ?_)
  have hw : aW D dA ad1 adV (aGs 33 [(29, 0), (29, 1), (29, 2), (29, 3), (29, 4), (29, 5), (29, 6), (29, 7), (0, 8), (0, 9), (0, 10)] (pI (pI (zR (pI ι 31 0 (0 : Int32)) 32) 31 2 (0 : Int32)) 31 3 (0 : Int32))) A s H locs := by rw [aGs_PI] at hw; exact hw
  refine lv_aload_n hx hb dX5_init_27 rfl (lv_at hl 0 rfl) ?_
  refine lv_iconst (v := (1 : Int32)) hx hb dX5_init_28 (by decide) ?_
  refine a_puti (ty := .int) (σ := aGs 33 [(29, 0), (29, 1), (29, 2), (29, 3), (29, 4), (29, 5), (29, 6), (29, 7), (0, 8), (0, 9), (0, 10)] (pI (pI (zR (pI ι 31 0 (0 : Int32)) 32) 31 2 (0 : Int32)) 31 3 (0 : Int32))) (o := 31) (T := TX5) (N := 5) (ty0 := tyX5) C wU_X5 tyX5_ok nmX5 hw rfl (by decide) rfl 4 (by decide) rfl wF_X5_25 rfl (by decide +kernel) rfl rfl dX5_init_29 (fun H locs hw => ?_)
  have hw : aW D dA ad1 adV (aGs 33 [(29, 0), (29, 1), (29, 2), (29, 3), (29, 4), (29, 5), (29, 6), (29, 7), (0, 8), (0, 9), (0, 10)] (pI (pI (pI (zR (pI ι 31 0 (0 : Int32)) 32) 31 2 (0 : Int32)) 31 3 (0 : Int32)) 31 4 (1 : Int32))) A s H locs := by rw [aGs_PI] at hw; exact hw
  cases h_e hM
  exact n_ret C hE0 hw dX5_init_32
set_option maxHeartbeats 400000 in
set_option maxRecDepth 100000 in
theorem ci_X5_init_33 (l : Launch) {ι res : iS} (hM : mi_X5 33 ι = some res) : aMn l yX5_init cX5_init 1 rm_X5_init (fun ad => [.ref (ad 33)]) 34 (aGs 34 [(33, 1), (29, 0), (29, 1), (29, 2), (29, 3), (29, 4), (29, 5), (29, 6), (29, 7), (0, 9), (0, 10)] ι) (aGs 35 [(29, 0), (29, 1), (29, 2), (29, 3), (29, 4), (29, 5), (29, 6), (29, 7), (0, 9), (0, 10)] res) 1 8 := by
  refine aMn.of (by decide) rfl (fun _ => Nat.le_of_ble_eq_true rfl) ?_
  intro p e s m args below meth c D dA ad adV A ls C hin hY hw hl
  have C : aX p m c cX5_init 1 s args aTs RX5 meth none := C
  have hx := C.1.1
  have hb := C.1.2.1
  have hown := C.1.2.2.2.1
  have hts := C.1.2.2.2.2
  have hl : lv_has ls 1 [(0, .ref (ad 33))] := hl
  replace hM : (some (pI (pI (pI (zR (pI ι 33 0 (0 : Int32)) 34) 33 2 (0 : Int32)) 33 3 (0 : Int32)) 33 4 (1 : Int32))) = some res := hM
  refine lv_aload_n hx hb dX5_init_0 rfl (lv_at hl 0 rfl) ?_
  refine n_obj C wM_X5_3 hl dX5_init_1 (Nat.le_of_ble_eq_true rfl) (Nat.le_of_ble_eq_true rfl) ?_
  refine lv_aload_n hx hb dX5_init_4 rfl (lv_at hl 0 rfl) ?_
  refine lv_iconst (v := (0 : Int32)) hx hb dX5_init_5 (by decide) ?_
  refine a_puti (ty := .int) (σ := aGs 34 [(33, 1), (29, 0), (29, 1), (29, 2), (29, 3), (29, 4), (29, 5), (29, 6), (29, 7), (0, 9), (0, 10)] ι) (o := 33) (T := TX5) (N := 5) (ty0 := tyX5) C wU_X5 tyX5_ok nmX5 hw rfl (by decide) rfl 0 (by decide) rfl wF_X5_9 rfl (by decide +kernel) rfl rfl dX5_init_6 (fun H locs hw => ?_)
  have hw : aW D dA ad adV (aGs 34 [(33, 1), (29, 0), (29, 1), (29, 2), (29, 3), (29, 4), (29, 5), (29, 6), (29, 7), (0, 9), (0, 10)] (pI ι 33 0 (0 : Int32))) A s H locs := by rw [aGs_PI] at hw; exact hw
  refine lv_aload_n hx hb dX5_init_9 rfl (lv_at hl 0 rfl) ?_
  refine lv_bipush (v := (8 : Int32)) hx hb dX5_init_10 (by decide) ?_
  refine n_newa (U' := [(33, 1), (29, 0), (29, 1), (29, 2), (29, 3), (29, 4), (29, 5), (29, 6), (29, 7), (0, 9), (0, 10)]) (ty := .int) (t := 9) C hw (by decide) rfl (nOk.of (N := ([] : List (Nat × Nat))) (by decide +kernel) (by decide)) wA_9 rfl rfl (Or.inr (Or.inl ⟨rfl, rfl⟩)) (by decide) (by decide) (by decide) (Nat.le_of_ble_eq_true rfl) (Nat.le_of_ble_eq_true rfl) dX5_init_12 (fun ad1 H hE hw => ?_)
  have hE0 : ∀ x, x < 34 ∨ 1000000 ≤ x → ad1 x = ad x := fun x hx => (hE x (by omega)).trans (rfl)
  rw [show ad 33 = ad1 33 from (hE 33 (by decide)).symm] at hl
  rw [show ad 33 = ad1 33 from (hE 33 (by decide)).symm]
  have hw : aW D dA ad1 adV (aGs 35 [(33, 1), (29, 0), (29, 1), (29, 2), (29, 3), (29, 4), (29, 5), (29, 6), (29, 7), (0, 9), (0, 10)] (zR (pI ι 33 0 (0 : Int32)) 34)) A s H locs := hw
  refine n_putF (U' := [(29, 0), (29, 1), (29, 2), (29, 3), (29, 4), (29, 5), (29, 6), (29, 7), (0, 9), (0, 10)]) (ty := .array .int) (o := 33) (q := 34) (T := TX5) (N := 5) (ty0 := tyX5) C hin wU_X5 tyX5_ok nmX5 hw (by decide) rfl (by decide) rfl 1 (by decide) rfl wF_X5_15 rfl rfl (by decide +kernel) rfl rfl rfl (uDel_1 (U := [(33, 1), (29, 0), (29, 1), (29, 2), (29, 3), (29, 4), (29, 5), (29, 6), (29, 7), (0, 9), (0, 10)])) (uDel_2 (U := [(33, 1), (29, 0), (29, 1), (29, 2), (29, 3), (29, 4), (29, 5), (29, 6), (29, 7), (0, 9), (0, 10)])) dX5_init_14 (fun H locs hw => ?_)
  have hw : aW D dA ad1 adV (aGs 35 [(29, 0), (29, 1), (29, 2), (29, 3), (29, 4), (29, 5), (29, 6), (29, 7), (0, 9), (0, 10)] (zR (pI ι 33 0 (0 : Int32)) 34)) A s H locs := hw
  refine lv_aload_n hx hb dX5_init_17 rfl (lv_at hl 0 rfl) ?_
  refine lv_iconst (v := (0 : Int32)) hx hb dX5_init_18 (by decide) ?_
  refine a_puti (ty := .int) (σ := aGs 35 [(29, 0), (29, 1), (29, 2), (29, 3), (29, 4), (29, 5), (29, 6), (29, 7), (0, 9), (0, 10)] (zR (pI ι 33 0 (0 : Int32)) 34)) (o := 33) (T := TX5) (N := 5) (ty0 := tyX5) C wU_X5 tyX5_ok nmX5 hw rfl (by decide) rfl 2 (by decide) rfl wF_X5_19 rfl (by decide +kernel) rfl rfl dX5_init_19 (fun H locs hw => ?_)
  have hw : aW D dA ad1 adV (aGs 35 [(29, 0), (29, 1), (29, 2), (29, 3), (29, 4), (29, 5), (29, 6), (29, 7), (0, 9), (0, 10)] (pI (zR (pI ι 33 0 (0 : Int32)) 34) 33 2 (0 : Int32))) A s H locs := by rw [aGs_PI] at hw; exact hw
  refine lv_aload_n hx hb dX5_init_22 rfl (lv_at hl 0 rfl) ?_
  refine lv_iconst (v := (0 : Int32)) hx hb dX5_init_23 (by decide) ?_
  refine a_puti (ty := .int) (σ := aGs 35 [(29, 0), (29, 1), (29, 2), (29, 3), (29, 4), (29, 5), (29, 6), (29, 7), (0, 9), (0, 10)] (pI (zR (pI ι 33 0 (0 : Int32)) 34) 33 2 (0 : Int32))) (o := 33) (T := TX5) (N := 5) (ty0 := tyX5) C wU_X5 tyX5_ok nmX5 hw rfl (by decide) rfl 3 (by decide) rfl wF_X5_22 rfl (by decide +kernel) rfl rfl dX5_init_24 (fun H locs hw => ?_)
  have hw : aW D dA ad1 adV (aGs 35 [(29, 0), (29, 1), (29, 2), (29, 3), (29, 4), (29, 5), (29, 6), (29, 7), (0, 9), (0, 10)] (pI (pI (zR (pI ι 33 0 (0 : Int32)) 34) 33 2 (0 : Int32)) 33 3 (0 : Int32))) A s H locs := by rw [aGs_PI] at hw; exact hw
  refine lv_aload_n hx hb dX5_init_27 rfl (lv_at hl 0 rfl) ?_
  refine lv_iconst (v := (1 : Int32)) hx hb dX5_init_28 (by decide) ?_
  refine a_puti (ty := .int) (σ := aGs 35 [(29, 0), (29, 1), (29, 2), (29, 3), (29, 4), (29, 5), (29, 6), (29, 7), (0, 9), (0, 10)] (pI (pI (zR (pI ι 33 0 (0 : Int32)) 34) 33 2 (0 : Int32)) 33 3 (0 : Int32))) (o := 33) (T := TX5) (N := 5) (ty0 := tyX5) C wU_X5 tyX5_ok nmX5 hw rfl (by decide) rfl 4 (by decide) rfl wF_X5_25 rfl (by decide +kernel) rfl rfl dX5_init_29 (fun H locs hw => ?_)
  have hw : aW D dA ad1 adV (aGs 35 [(29, 0), (29, 1), (29, 2), (29, 3), (29, 4), (29, 5), (29, 6), (29, 7), (0, 9), (0, 10)] (pI (pI (pI (zR (pI ι 33 0 (0 : Int32)) 34) 33 2 (0 : Int32)) 33 3 (0 : Int32)) 33 4 (1 : Int32))) A s H locs := by rw [aGs_PI] at hw; exact hw
  cases h_e hM
  exact n_ret C hE0 hw dX5_init_32
def mi_X0 (ι : iS) : Option iS := some (zR (pI (pI (pJ (pJ (pI ι 35 0 (0 : Int32)) 35 1 (0 : Int64)) 35 2 (0 : Int64)) 35 3 (0 : Int32)) 35 4 (0 : Int32)) 36)
def rm_X0_init : Room := { frames := 1, cells := 1, slots := 16, locals := 12 }
set_option maxHeartbeats 400000 in
set_option maxRecDepth 100000 in
theorem ci_X0_init_35 (l : Launch) {ι res : iS} (hM : mi_X0 ι = some res) : aMn l yX0_init cX0_init 1 rm_X0_init (fun ad => [.ref (ad 35)]) 36 (aGs 36 [(35, 5), (29, 0), (29, 1), (29, 2), (29, 3), (29, 4), (29, 5), (29, 6), (29, 7), (0, 10)] ι) (aGs 37 [(29, 0), (29, 1), (29, 2), (29, 3), (29, 4), (29, 5), (29, 6), (29, 7), (0, 10)] res) 1 16 := by
  refine aMn.of (by decide) rfl (fun _ => Nat.le_of_ble_eq_true rfl) ?_
  intro p e s m args below meth c D dA ad adV A ls C hin hY hw hl
  have C : aX p m c cX0_init 1 s args aTs RX0 meth none := C
  have hx := C.1.1
  have hb := C.1.2.1
  have hown := C.1.2.2.2.1
  have hts := C.1.2.2.2.2
  have hl : lv_has ls 1 [(0, .ref (ad 35))] := hl
  replace hM : (some (zR (pI (pI (pJ (pJ (pI ι 35 0 (0 : Int32)) 35 1 (0 : Int64)) 35 2 (0 : Int64)) 35 3 (0 : Int32)) 35 4 (0 : Int32)) 36)) = some res := hM
  refine lv_aload_n hx hb dX0_init_0 rfl (lv_at hl 0 rfl) ?_
  refine n_obj C wM_X0_3 hl dX0_init_1 (Nat.le_of_ble_eq_true rfl) (Nat.le_of_ble_eq_true rfl) ?_
  refine lv_aload_n hx hb dX0_init_4 rfl (lv_at hl 0 rfl) ?_
  refine lv_iconst (v := (0 : Int32)) hx hb dX0_init_5 (by decide) ?_
  refine a_puti (ty := .int) (σ := aGs 36 [(35, 5), (29, 0), (29, 1), (29, 2), (29, 3), (29, 4), (29, 5), (29, 6), (29, 7), (0, 10)] ι) (o := 35) (T := TX0) (N := 6) (ty0 := tyX0) C wU_X0 tyX0_ok nmX0 hw rfl (by decide) rfl 0 (by decide) rfl wF_X0_9 rfl (by decide +kernel) rfl rfl dX0_init_6 (fun H locs hw => ?_)
  have hw : aW D dA ad adV (aGs 36 [(35, 5), (29, 0), (29, 1), (29, 2), (29, 3), (29, 4), (29, 5), (29, 6), (29, 7), (0, 10)] (pI ι 35 0 (0 : Int32))) A s H locs := by rw [aGs_PI] at hw; exact hw
  refine lv_aload_n hx hb dX0_init_9 rfl (lv_at hl 0 rfl) ?_
  refine lv_lconst (v := (0 : Int64)) hx hb dX0_init_10 (by decide) ?_
  refine a_putj (σ := aGs 36 [(35, 5), (29, 0), (29, 1), (29, 2), (29, 3), (29, 4), (29, 5), (29, 6), (29, 7), (0, 10)] (pI ι 35 0 (0 : Int32))) (o := 35) (T := TX0) (N := 6) (ty0 := tyX0) C wU_X0 tyX0_ok nmX0 hw rfl (by decide) rfl 1 (by decide) rfl wF_X0_15 rfl (by decide +kernel) dX0_init_11 (fun H locs hw => ?_)
  have hw : aW D dA ad adV (aGs 36 [(35, 5), (29, 0), (29, 1), (29, 2), (29, 3), (29, 4), (29, 5), (29, 6), (29, 7), (0, 10)] (pJ (pI ι 35 0 (0 : Int32)) 35 1 (0 : Int64))) A s H locs := by rw [aGs_PJ] at hw; exact hw
  refine lv_aload_n hx hb dX0_init_14 rfl (lv_at hl 0 rfl) ?_
  refine lv_lconst (v := (0 : Int64)) hx hb dX0_init_15 (by decide) ?_
  refine a_putj (σ := aGs 36 [(35, 5), (29, 0), (29, 1), (29, 2), (29, 3), (29, 4), (29, 5), (29, 6), (29, 7), (0, 10)] (pJ (pI ι 35 0 (0 : Int32)) 35 1 (0 : Int64))) (o := 35) (T := TX0) (N := 6) (ty0 := tyX0) C wU_X0 tyX0_ok nmX0 hw rfl (by decide) rfl 2 (by decide) rfl wF_X0_19 rfl (by decide +kernel) dX0_init_16 (fun H locs hw => ?_)
  have hw : aW D dA ad adV (aGs 36 [(35, 5), (29, 0), (29, 1), (29, 2), (29, 3), (29, 4), (29, 5), (29, 6), (29, 7), (0, 10)] (pJ (pJ (pI ι 35 0 (0 : Int32)) 35 1 (0 : Int64)) 35 2 (0 : Int64))) A s H locs := by rw [aGs_PJ] at hw; exact hw
  refine lv_aload_n hx hb dX0_init_19 rfl (lv_at hl 0 rfl) ?_
  refine lv_iconst (v := (0 : Int32)) hx hb dX0_init_20 (by decide) ?_
  refine a_puti (ty := .boolean) (σ := aGs 36 [(35, 5), (29, 0), (29, 1), (29, 2), (29, 3), (29, 4), (29, 5), (29, 6), (29, 7), (0, 10)] (pJ (pJ (pI ι 35 0 (0 : Int32)) 35 1 (0 : Int64)) 35 2 (0 : Int64))) (o := 35) (T := TX0) (N := 6) (ty0 := tyX0) C wU_X0 tyX0_ok nmX0 hw rfl (by decide) rfl 3 (by decide) rfl wF_X0_22 rfl (by decide +kernel) (by decide) (by decide) dX0_init_21 (fun H locs hw => ?_)
  have hw : aW D dA ad adV (aGs 36 [(35, 5), (29, 0), (29, 1), (29, 2), (29, 3), (29, 4), (29, 5), (29, 6), (29, 7), (0, 10)] (pI (pJ (pJ (pI ι 35 0 (0 : Int32)) 35 1 (0 : Int64)) 35 2 (0 : Int64)) 35 3 (0 : Int32))) A s H locs := by rw [aGs_PI] at hw; exact hw
  refine lv_aload_n hx hb dX0_init_24 rfl (lv_at hl 0 rfl) ?_
  refine lv_iconst (v := (0 : Int32)) hx hb dX0_init_25 (by decide) ?_
  refine a_puti (ty := .int) (σ := aGs 36 [(35, 5), (29, 0), (29, 1), (29, 2), (29, 3), (29, 4), (29, 5), (29, 6), (29, 7), (0, 10)] (pI (pJ (pJ (pI ι 35 0 (0 : Int32)) 35 1 (0 : Int64)) 35 2 (0 : Int64)) 35 3 (0 : Int32))) (o := 35) (T := TX0) (N := 6) (ty0 := tyX0) C wU_X0 tyX0_ok nmX0 hw rfl (by decide) rfl 4 (by decide) rfl wF_X0_26 rfl (by decide +kernel) rfl rfl dX0_init_26 (fun H locs hw => ?_)
  have hw : aW D dA ad adV (aGs 36 [(35, 5), (29, 0), (29, 1), (29, 2), (29, 3), (29, 4), (29, 5), (29, 6), (29, 7), (0, 10)] (pI (pI (pJ (pJ (pI ι 35 0 (0 : Int32)) 35 1 (0 : Int64)) 35 2 (0 : Int64)) 35 3 (0 : Int32)) 35 4 (0 : Int32))) A s H locs := by rw [aGs_PI] at hw; exact hw
  refine lv_aload_n hx hb dX0_init_29 rfl (lv_at hl 0 rfl) ?_
  refine lv_bipush (v := (16 : Int32)) hx hb dX0_init_30 (by decide) ?_
  refine n_newa (U' := [(35, 5), (29, 0), (29, 1), (29, 2), (29, 3), (29, 4), (29, 5), (29, 6), (29, 7), (0, 10)]) (ty := .int) (t := 9) C hw (by decide) rfl (nOk.of (N := ([] : List (Nat × Nat))) (by decide +kernel) (by decide)) wA_9 rfl rfl (Or.inr (Or.inl ⟨rfl, rfl⟩)) (by decide) (by decide) (by decide) (Nat.le_of_ble_eq_true rfl) (Nat.le_of_ble_eq_true rfl) dX0_init_32 (fun ad1 H hE hw => ?_)
  have hE0 : ∀ x, x < 36 ∨ 1000000 ≤ x → ad1 x = ad x := fun x hx => (hE x (by omega)).trans (rfl)
  rw [show ad 35 = ad1 35 from (hE 35 (by decide)).symm] at hl
  rw [show ad 35 = ad1 35 from (hE 35 (by decide)).symm]
  have hw : aW D dA ad1 adV (aGs 37 [(35, 5), (29, 0), (29, 1), (29, 2), (29, 3), (29, 4), (29, 5), (29, 6), (29, 7), (0, 10)] (zR (pI (pI (pJ (pJ (pI ι 35 0 (0 : Int32)) 35 1 (0 : Int64)) 35 2 (0 : Int64)) 35 3 (0 : Int32)) 35 4 (0 : Int32)) 36)) A s H locs := hw
  refine n_putF (U' := [(29, 0), (29, 1), (29, 2), (29, 3), (29, 4), (29, 5), (29, 6), (29, 7), (0, 10)]) (ty := .array .int) (o := 35) (q := 36) (T := TX0) (N := 6) (ty0 := tyX0) C hin wU_X0 tyX0_ok nmX0 hw (by decide) rfl (by decide) rfl 5 (by decide) rfl wF_X0_29 rfl rfl (by decide +kernel) rfl rfl rfl (uDel_1 (U := [(35, 5), (29, 0), (29, 1), (29, 2), (29, 3), (29, 4), (29, 5), (29, 6), (29, 7), (0, 10)])) (uDel_2 (U := [(35, 5), (29, 0), (29, 1), (29, 2), (29, 3), (29, 4), (29, 5), (29, 6), (29, 7), (0, 10)])) dX0_init_34 (fun H locs hw => ?_)
  have hw : aW D dA ad1 adV (aGs 37 [(29, 0), (29, 1), (29, 2), (29, 3), (29, 4), (29, 5), (29, 6), (29, 7), (0, 10)] (zR (pI (pI (pJ (pJ (pI ι 35 0 (0 : Int32)) 35 1 (0 : Int64)) 35 2 (0 : Int64)) 35 3 (0 : Int32)) 35 4 (0 : Int32)) 36)) A s H locs := hw
  cases h_e hM
  exact n_ret C hE0 hw dX0_init_37
set_option maxHeartbeats 400000 in
set_option maxRecDepth 100000 in
theorem ci_X2_init_37 (l : Launch) {ι res : iS} (hM : mi_X2 37 ι = some res) : aMn l yX2_init cX2_init 1 rm_X2_init (fun ad => [.ref (ad 37)]) 38 (aGs 38 [(37, 3), (37, 4), (37, 5), (37, 6), (37, 7), (37, 8), (37, 9), (37, 10), (29, 0), (29, 1), (29, 2), (29, 3), (29, 4), (29, 5), (29, 6), (29, 7)] ι) (aGs 46 [(29, 0), (29, 1), (29, 2), (29, 3), (29, 4), (29, 5), (29, 6), (29, 7)] res) 8 150 := by
  refine aMn.of (by decide) rfl (fun _ => Nat.le_of_ble_eq_true rfl) ?_
  intro p e s m args below meth c D dA ad adV A ls C hin hY hw hl
  have C : aX p m c cX2_init 1 s args aTs RX2 meth none := C
  have hx := C.1.1
  have hb := C.1.2.1
  have hown := C.1.2.2.2.1
  have hts := C.1.2.2.2.2
  have hl : lv_has ls 1 [(0, .ref (ad 37))] := hl
  replace hM : (Option.bind (m_X2_clear 37 (zR (zR (zR (zR (zR (zR (zR (zR (pI (pI (pI ι 37 0 (0 : Int32)) 37 1 (1 : Int32)) 37 2 (0 : Int32)) 38) 39) 40) 41) 42) 43) 44) 45)) fun r81 => some r81) = some res := hM
  refine lv_aload_n hx hb dX2_init_0 rfl (lv_at hl 0 rfl) ?_
  refine n_obj C wM_X2_3 hl dX2_init_1 (Nat.le_of_ble_eq_true rfl) (Nat.le_of_ble_eq_true rfl) ?_
  refine lv_aload_n hx hb dX2_init_4 rfl (lv_at hl 0 rfl) ?_
  refine lv_iconst (v := (0 : Int32)) hx hb dX2_init_5 (by decide) ?_
  refine a_puti (ty := .int) (σ := aGs 38 [(37, 3), (37, 4), (37, 5), (37, 6), (37, 7), (37, 8), (37, 9), (37, 10), (29, 0), (29, 1), (29, 2), (29, 3), (29, 4), (29, 5), (29, 6), (29, 7)] ι) (o := 37) (T := TX2) (N := 11) (ty0 := tyX2) C wU_X2 tyX2_ok nmX2 hw rfl (by decide) rfl 0 (by decide) rfl wF_X2_9 rfl (by decide +kernel) rfl rfl dX2_init_6 (fun H locs hw => ?_)
  have hw : aW D dA ad adV (aGs 38 [(37, 3), (37, 4), (37, 5), (37, 6), (37, 7), (37, 8), (37, 9), (37, 10), (29, 0), (29, 1), (29, 2), (29, 3), (29, 4), (29, 5), (29, 6), (29, 7)] (pI ι 37 0 (0 : Int32))) A s H locs := by rw [aGs_PI] at hw; exact hw
  refine lv_aload_n hx hb dX2_init_9 rfl (lv_at hl 0 rfl) ?_
  refine lv_iconst (v := (1 : Int32)) hx hb dX2_init_10 (by decide) ?_
  refine a_puti (ty := .int) (σ := aGs 38 [(37, 3), (37, 4), (37, 5), (37, 6), (37, 7), (37, 8), (37, 9), (37, 10), (29, 0), (29, 1), (29, 2), (29, 3), (29, 4), (29, 5), (29, 6), (29, 7)] (pI ι 37 0 (0 : Int32))) (o := 37) (T := TX2) (N := 11) (ty0 := tyX2) C wU_X2 tyX2_ok nmX2 hw rfl (by decide) rfl 1 (by decide) rfl wF_X2_15 rfl (by decide +kernel) rfl rfl dX2_init_11 (fun H locs hw => ?_)
  have hw : aW D dA ad adV (aGs 38 [(37, 3), (37, 4), (37, 5), (37, 6), (37, 7), (37, 8), (37, 9), (37, 10), (29, 0), (29, 1), (29, 2), (29, 3), (29, 4), (29, 5), (29, 6), (29, 7)] (pI (pI ι 37 0 (0 : Int32)) 37 1 (1 : Int32))) A s H locs := by rw [aGs_PI] at hw; exact hw
  refine lv_aload_n hx hb dX2_init_14 rfl (lv_at hl 0 rfl) ?_
  refine lv_iconst (v := (0 : Int32)) hx hb dX2_init_15 (by decide) ?_
  refine a_puti (ty := .int) (σ := aGs 38 [(37, 3), (37, 4), (37, 5), (37, 6), (37, 7), (37, 8), (37, 9), (37, 10), (29, 0), (29, 1), (29, 2), (29, 3), (29, 4), (29, 5), (29, 6), (29, 7)] (pI (pI ι 37 0 (0 : Int32)) 37 1 (1 : Int32))) (o := 37) (T := TX2) (N := 11) (ty0 := tyX2) C wU_X2 tyX2_ok nmX2 hw rfl (by decide) rfl 2 (by decide) rfl wF_X2_18 rfl (by decide +kernel) rfl rfl dX2_init_16 (fun H locs hw => ?_)
  have hw : aW D dA ad adV (aGs 38 [(37, 3), (37, 4), (37, 5), (37, 6), (37, 7), (37, 8), (37, 9), (37, 10), (29, 0), (29, 1), (29, 2), (29, 3), (29, 4), (29, 5), (29, 6), (29, 7)] (pI (pI (pI ι 37 0 (0 : Int32)) 37 1 (1 : Int32)) 37 2 (0 : Int32))) A s H locs := by rw [aGs_PI] at hw; exact hw
  refine lv_aload_n hx hb dX2_init_19 rfl (lv_at hl 0 rfl) ?_
  refine lv_bipush (v := (80 : Int32)) hx hb dX2_init_20 (by decide) ?_
  refine n_newa (U' := [(37, 3), (37, 4), (37, 5), (37, 6), (37, 7), (37, 8), (37, 9), (37, 10), (29, 0), (29, 1), (29, 2), (29, 3), (29, 4), (29, 5), (29, 6), (29, 7)]) (ty := .int) (t := 9) C hw (by decide) rfl (nOk.of (N := ([] : List (Nat × Nat))) (by decide +kernel) (by decide)) wA_9 rfl rfl (Or.inr (Or.inl ⟨rfl, rfl⟩)) (by decide) (by decide) (by decide) (Nat.le_of_ble_eq_true rfl) (Nat.le_of_ble_eq_true rfl) dX2_init_22 (fun ad1 H hE hw => ?_)
  have hE0 : ∀ x, x < 38 ∨ 1000000 ≤ x → ad1 x = ad x := fun x hx => (hE x (by omega)).trans (rfl)
  rw [show ad 37 = ad1 37 from (hE 37 (by decide)).symm] at hl
  rw [show ad 37 = ad1 37 from (hE 37 (by decide)).symm]
  have hw : aW D dA ad1 adV (aGs 39 [(37, 3), (37, 4), (37, 5), (37, 6), (37, 7), (37, 8), (37, 9), (37, 10), (29, 0), (29, 1), (29, 2), (29, 3), (29, 4), (29, 5), (29, 6), (29, 7)] (zR (pI (pI (pI ι 37 0 (0 : Int32)) 37 1 (1 : Int32)) 37 2 (0 : Int32)) 38)) A s H locs := hw
  refine n_putF (U' := [(37, 4), (37, 5), (37, 6), (37, 7), (37, 8), (37, 9), (37, 10), (29, 0), (29, 1), (29, 2), (29, 3), (29, 4), (29, 5), (29, 6), (29, 7)]) (ty := .array .int) (o := 37) (q := 38) (T := TX2) (N := 11) (ty0 := tyX2) C hin wU_X2 tyX2_ok nmX2 hw (by decide) rfl (by decide) rfl 3 (by decide) rfl wF_X2_21 rfl rfl (by decide +kernel) rfl rfl rfl (uDel_1 (U := [(37, 3), (37, 4), (37, 5), (37, 6), (37, 7), (37, 8), (37, 9), (37, 10), (29, 0), (29, 1), (29, 2), (29, 3), (29, 4), (29, 5), (29, 6), (29, 7)])) (uDel_2 (U := [(37, 3), (37, 4), (37, 5), (37, 6), (37, 7), (37, 8), (37, 9), (37, 10), (29, 0), (29, 1), (29, 2), (29, 3), (29, 4), (29, 5), (29, 6), (29, 7)])) dX2_init_24 (fun H locs hw => ?_)
  have hw : aW D dA ad1 adV (aGs 39 [(37, 4), (37, 5), (37, 6), (37, 7), (37, 8), (37, 9), (37, 10), (29, 0), (29, 1), (29, 2), (29, 3), (29, 4), (29, 5), (29, 6), (29, 7)] (zR (pI (pI (pI ι 37 0 (0 : Int32)) 37 1 (1 : Int32)) 37 2 (0 : Int32)) 38)) A s H locs := hw
  refine lv_aload_n hx hb dX2_init_27 rfl (lv_at hl 0 rfl) ?_
  refine lv_iconst (v := (5 : Int32)) hx hb dX2_init_28 (by decide) ?_
  refine n_newa (U' := [(37, 4), (37, 5), (37, 6), (37, 7), (37, 8), (37, 9), (37, 10), (29, 0), (29, 1), (29, 2), (29, 3), (29, 4), (29, 5), (29, 6), (29, 7)]) (ty := .int) (t := 9) C hw (by decide) rfl (nOk.of (N := ([] : List (Nat × Nat))) (by decide +kernel) (by decide)) wA_9 rfl rfl (Or.inr (Or.inl ⟨rfl, rfl⟩)) (by decide) (by decide) (by decide) (Nat.le_of_ble_eq_true rfl) (Nat.le_of_ble_eq_true rfl) dX2_init_29 (fun ad2 H hE hw => ?_)
  have hE0 : ∀ x, x < 38 ∨ 1000000 ≤ x → ad2 x = ad x := fun x hx => (hE x (by omega)).trans (hE0 x hx)
  rw [show ad1 37 = ad2 37 from (hE 37 (by decide)).symm] at hl
  rw [show ad1 37 = ad2 37 from (hE 37 (by decide)).symm]
  have hw : aW D dA ad2 adV (aGs 40 [(37, 4), (37, 5), (37, 6), (37, 7), (37, 8), (37, 9), (37, 10), (29, 0), (29, 1), (29, 2), (29, 3), (29, 4), (29, 5), (29, 6), (29, 7)] (zR (zR (pI (pI (pI ι 37 0 (0 : Int32)) 37 1 (1 : Int32)) 37 2 (0 : Int32)) 38) 39)) A s H locs := hw
  refine n_putF (U' := [(37, 5), (37, 6), (37, 7), (37, 8), (37, 9), (37, 10), (29, 0), (29, 1), (29, 2), (29, 3), (29, 4), (29, 5), (29, 6), (29, 7)]) (ty := .array .int) (o := 37) (q := 39) (T := TX2) (N := 11) (ty0 := tyX2) C hin wU_X2 tyX2_ok nmX2 hw (by decide) rfl (by decide) rfl 4 (by decide) rfl wF_X2_25 rfl rfl (by decide +kernel) rfl rfl rfl (uDel_1 (U := [(37, 4), (37, 5), (37, 6), (37, 7), (37, 8), (37, 9), (37, 10), (29, 0), (29, 1), (29, 2), (29, 3), (29, 4), (29, 5), (29, 6), (29, 7)])) (uDel_2 (U := [(37, 4), (37, 5), (37, 6), (37, 7), (37, 8), (37, 9), (37, 10), (29, 0), (29, 1), (29, 2), (29, 3), (29, 4), (29, 5), (29, 6), (29, 7)])) dX2_init_31 (fun H locs hw => ?_)
  have hw : aW D dA ad2 adV (aGs 40 [(37, 5), (37, 6), (37, 7), (37, 8), (37, 9), (37, 10), (29, 0), (29, 1), (29, 2), (29, 3), (29, 4), (29, 5), (29, 6), (29, 7)] (zR (zR (pI (pI (pI ι 37 0 (0 : Int32)) 37 1 (1 : Int32)) 37 2 (0 : Int32)) 38) 39)) A s H locs := hw
  refine lv_aload_n hx hb dX2_init_34 rfl (lv_at hl 0 rfl) ?_
  refine lv_iconst (v := (5 : Int32)) hx hb dX2_init_35 (by decide) ?_
  refine n_newa (U' := [(37, 5), (37, 6), (37, 7), (37, 8), (37, 9), (37, 10), (29, 0), (29, 1), (29, 2), (29, 3), (29, 4), (29, 5), (29, 6), (29, 7)]) (ty := .int) (t := 9) C hw (by decide) rfl (nOk.of (N := ([] : List (Nat × Nat))) (by decide +kernel) (by decide)) wA_9 rfl rfl (Or.inr (Or.inl ⟨rfl, rfl⟩)) (by decide) (by decide) (by decide) (Nat.le_of_ble_eq_true rfl) (Nat.le_of_ble_eq_true rfl) dX2_init_36 (fun ad3 H hE hw => ?_)
  have hE0 : ∀ x, x < 38 ∨ 1000000 ≤ x → ad3 x = ad x := fun x hx => (hE x (by omega)).trans (hE0 x hx)
  rw [show ad2 37 = ad3 37 from (hE 37 (by decide)).symm] at hl
  rw [show ad2 37 = ad3 37 from (hE 37 (by decide)).symm]
  have hw : aW D dA ad3 adV (aGs 41 [(37, 5), (37, 6), (37, 7), (37, 8), (37, 9), (37, 10), (29, 0), (29, 1), (29, 2), (29, 3), (29, 4), (29, 5), (29, 6), (29, 7)] (zR (zR (zR (pI (pI (pI ι 37 0 (0 : Int32)) 37 1 (1 : Int32)) 37 2 (0 : Int32)) 38) 39) 40)) A s H locs := hw
  refine n_putF (U' := [(37, 6), (37, 7), (37, 8), (37, 9), (37, 10), (29, 0), (29, 1), (29, 2), (29, 3), (29, 4), (29, 5), (29, 6), (29, 7)]) (ty := .array .int) (o := 37) (q := 40) (T := TX2) (N := 11) (ty0 := tyX2) C hin wU_X2 tyX2_ok nmX2 hw (by decide) rfl (by decide) rfl 5 (by decide) rfl wF_X2_28 rfl rfl (by decide +kernel) rfl rfl rfl (uDel_1 (U := [(37, 5), (37, 6), (37, 7), (37, 8), (37, 9), (37, 10), (29, 0), (29, 1), (29, 2), (29, 3), (29, 4), (29, 5), (29, 6), (29, 7)])) (uDel_2 (U := [(37, 5), (37, 6), (37, 7), (37, 8), (37, 9), (37, 10), (29, 0), (29, 1), (29, 2), (29, 3), (29, 4), (29, 5), (29, 6), (29, 7)])) dX2_init_38 (fun H locs hw => ?_)
  have hw : aW D dA ad3 adV (aGs 41 [(37, 6), (37, 7), (37, 8), (37, 9), (37, 10), (29, 0), (29, 1), (29, 2), (29, 3), (29, 4), (29, 5), (29, 6), (29, 7)] (zR (zR (zR (pI (pI (pI ι 37 0 (0 : Int32)) 37 1 (1 : Int32)) 37 2 (0 : Int32)) 38) 39) 40)) A s H locs := hw
  refine lv_aload_n hx hb dX2_init_41 rfl (lv_at hl 0 rfl) ?_
  refine lv_iconst (v := (4 : Int32)) hx hb dX2_init_42 (by decide) ?_
  refine n_newa (U' := [(37, 6), (37, 7), (37, 8), (37, 9), (37, 10), (29, 0), (29, 1), (29, 2), (29, 3), (29, 4), (29, 5), (29, 6), (29, 7)]) (ty := .int) (t := 9) C hw (by decide) rfl (nOk.of (N := ([] : List (Nat × Nat))) (by decide +kernel) (by decide)) wA_9 rfl rfl (Or.inr (Or.inl ⟨rfl, rfl⟩)) (by decide) (by decide) (by decide) (Nat.le_of_ble_eq_true rfl) (Nat.le_of_ble_eq_true rfl) dX2_init_43 (fun ad4 H hE hw => ?_)
  have hE0 : ∀ x, x < 38 ∨ 1000000 ≤ x → ad4 x = ad x := fun x hx => (hE x (by omega)).trans (hE0 x hx)
  rw [show ad3 37 = ad4 37 from (hE 37 (by decide)).symm] at hl
  rw [show ad3 37 = ad4 37 from (hE 37 (by decide)).symm]
  have hw : aW D dA ad4 adV (aGs 42 [(37, 6), (37, 7), (37, 8), (37, 9), (37, 10), (29, 0), (29, 1), (29, 2), (29, 3), (29, 4), (29, 5), (29, 6), (29, 7)] (zR (zR (zR (zR (pI (pI (pI ι 37 0 (0 : Int32)) 37 1 (1 : Int32)) 37 2 (0 : Int32)) 38) 39) 40) 41)) A s H locs := hw
  refine n_putF (U' := [(37, 7), (37, 8), (37, 9), (37, 10), (29, 0), (29, 1), (29, 2), (29, 3), (29, 4), (29, 5), (29, 6), (29, 7)]) (ty := .array .int) (o := 37) (q := 41) (T := TX2) (N := 11) (ty0 := tyX2) C hin wU_X2 tyX2_ok nmX2 hw (by decide) rfl (by decide) rfl 6 (by decide) rfl wF_X2_31 rfl rfl (by decide +kernel) rfl rfl rfl (uDel_1 (U := [(37, 6), (37, 7), (37, 8), (37, 9), (37, 10), (29, 0), (29, 1), (29, 2), (29, 3), (29, 4), (29, 5), (29, 6), (29, 7)])) (uDel_2 (U := [(37, 6), (37, 7), (37, 8), (37, 9), (37, 10), (29, 0), (29, 1), (29, 2), (29, 3), (29, 4), (29, 5), (29, 6), (29, 7)])) dX2_init_45 (fun H locs hw => ?_)
  have hw : aW D dA ad4 adV (aGs 42 [(37, 7), (37, 8), (37, 9), (37, 10), (29, 0), (29, 1), (29, 2), (29, 3), (29, 4), (29, 5), (29, 6), (29, 7)] (zR (zR (zR (zR (pI (pI (pI ι 37 0 (0 : Int32)) 37 1 (1 : Int32)) 37 2 (0 : Int32)) 38) 39) 40) 41)) A s H locs := hw
  refine lv_aload_n hx hb dX2_init_48 rfl (lv_at hl 0 rfl) ?_
  refine lv_bipush (v := (8 : Int32)) hx hb dX2_init_49 (by decide) ?_
  refine n_newa (U' := [(37, 7), (37, 8), (37, 9), (37, 10), (29, 0), (29, 1), (29, 2), (29, 3), (29, 4), (29, 5), (29, 6), (29, 7)]) (ty := .int) (t := 9) C hw (by decide) rfl (nOk.of (N := ([] : List (Nat × Nat))) (by decide +kernel) (by decide)) wA_9 rfl rfl (Or.inr (Or.inl ⟨rfl, rfl⟩)) (by decide) (by decide) (by decide) (Nat.le_of_ble_eq_true rfl) (Nat.le_of_ble_eq_true rfl) dX2_init_51 (fun ad5 H hE hw => ?_)
  have hE0 : ∀ x, x < 38 ∨ 1000000 ≤ x → ad5 x = ad x := fun x hx => (hE x (by omega)).trans (hE0 x hx)
  rw [show ad4 37 = ad5 37 from (hE 37 (by decide)).symm] at hl
  rw [show ad4 37 = ad5 37 from (hE 37 (by decide)).symm]
  have hw : aW D dA ad5 adV (aGs 43 [(37, 7), (37, 8), (37, 9), (37, 10), (29, 0), (29, 1), (29, 2), (29, 3), (29, 4), (29, 5), (29, 6), (29, 7)] (zR (zR (zR (zR (zR (pI (pI (pI ι 37 0 (0 : Int32)) 37 1 (1 : Int32)) 37 2 (0 : Int32)) 38) 39) 40) 41) 42)) A s H locs := hw
  refine n_putF (U' := [(37, 8), (37, 9), (37, 10), (29, 0), (29, 1), (29, 2), (29, 3), (29, 4), (29, 5), (29, 6), (29, 7)]) (ty := .array .int) (o := 37) (q := 42) (T := TX2) (N := 11) (ty0 := tyX2) C hin wU_X2 tyX2_ok nmX2 hw (by decide) rfl (by decide) rfl 7 (by decide) rfl wF_X2_34 rfl rfl (by decide +kernel) rfl rfl rfl (uDel_1 (U := [(37, 7), (37, 8), (37, 9), (37, 10), (29, 0), (29, 1), (29, 2), (29, 3), (29, 4), (29, 5), (29, 6), (29, 7)])) (uDel_2 (U := [(37, 7), (37, 8), (37, 9), (37, 10), (29, 0), (29, 1), (29, 2), (29, 3), (29, 4), (29, 5), (29, 6), (29, 7)])) dX2_init_53 (fun H locs hw => ?_)
  have hw : aW D dA ad5 adV (aGs 43 [(37, 8), (37, 9), (37, 10), (29, 0), (29, 1), (29, 2), (29, 3), (29, 4), (29, 5), (29, 6), (29, 7)] (zR (zR (zR (zR (zR (pI (pI (pI ι 37 0 (0 : Int32)) 37 1 (1 : Int32)) 37 2 (0 : Int32)) 38) 39) 40) 41) 42)) A s H locs := hw
  refine lv_aload_n hx hb dX2_init_56 rfl (lv_at hl 0 rfl) ?_
  refine lv_bipush (v := (16 : Int32)) hx hb dX2_init_57 (by decide) ?_
  refine n_newa (U' := [(37, 8), (37, 9), (37, 10), (29, 0), (29, 1), (29, 2), (29, 3), (29, 4), (29, 5), (29, 6), (29, 7)]) (ty := .int) (t := 9) C hw (by decide) rfl (nOk.of (N := ([] : List (Nat × Nat))) (by decide +kernel) (by decide)) wA_9 rfl rfl (Or.inr (Or.inl ⟨rfl, rfl⟩)) (by decide) (by decide) (by decide) (Nat.le_of_ble_eq_true rfl) (Nat.le_of_ble_eq_true rfl) dX2_init_59 (fun ad6 H hE hw => ?_)
  have hE0 : ∀ x, x < 38 ∨ 1000000 ≤ x → ad6 x = ad x := fun x hx => (hE x (by omega)).trans (hE0 x hx)
  rw [show ad5 37 = ad6 37 from (hE 37 (by decide)).symm] at hl
  rw [show ad5 37 = ad6 37 from (hE 37 (by decide)).symm]
  have hw : aW D dA ad6 adV (aGs 44 [(37, 8), (37, 9), (37, 10), (29, 0), (29, 1), (29, 2), (29, 3), (29, 4), (29, 5), (29, 6), (29, 7)] (zR (zR (zR (zR (zR (zR (pI (pI (pI ι 37 0 (0 : Int32)) 37 1 (1 : Int32)) 37 2 (0 : Int32)) 38) 39) 40) 41) 42) 43)) A s H locs := hw
  refine n_putF (U' := [(37, 9), (37, 10), (29, 0), (29, 1), (29, 2), (29, 3), (29, 4), (29, 5), (29, 6), (29, 7)]) (ty := .array .int) (o := 37) (q := 43) (T := TX2) (N := 11) (ty0 := tyX2) C hin wU_X2 tyX2_ok nmX2 hw (by decide) rfl (by decide) rfl 8 (by decide) rfl wF_X2_37 rfl rfl (by decide +kernel) rfl rfl rfl (uDel_1 (U := [(37, 8), (37, 9), (37, 10), (29, 0), (29, 1), (29, 2), (29, 3), (29, 4), (29, 5), (29, 6), (29, 7)])) (uDel_2 (U := [(37, 8), (37, 9), (37, 10), (29, 0), (29, 1), (29, 2), (29, 3), (29, 4), (29, 5), (29, 6), (29, 7)])) dX2_init_61 (fun H locs hw => ?_)
  have hw : aW D dA ad6 adV (aGs 44 [(37, 9), (37, 10), (29, 0), (29, 1), (29, 2), (29, 3), (29, 4), (29, 5), (29, 6), (29, 7)] (zR (zR (zR (zR (zR (zR (pI (pI (pI ι 37 0 (0 : Int32)) 37 1 (1 : Int32)) 37 2 (0 : Int32)) 38) 39) 40) 41) 42) 43)) A s H locs := hw
  refine lv_aload_n hx hb dX2_init_64 rfl (lv_at hl 0 rfl) ?_
  refine lv_bipush (v := (16 : Int32)) hx hb dX2_init_65 (by decide) ?_
  refine n_newa (U' := [(37, 9), (37, 10), (29, 0), (29, 1), (29, 2), (29, 3), (29, 4), (29, 5), (29, 6), (29, 7)]) (ty := .int) (t := 9) C hw (by decide) rfl (nOk.of (N := ([] : List (Nat × Nat))) (by decide +kernel) (by decide)) wA_9 rfl rfl (Or.inr (Or.inl ⟨rfl, rfl⟩)) (by decide) (by decide) (by decide) (Nat.le_of_ble_eq_true rfl) (Nat.le_of_ble_eq_true rfl) dX2_init_67 (fun ad7 H hE hw => ?_)
  have hE0 : ∀ x, x < 38 ∨ 1000000 ≤ x → ad7 x = ad x := fun x hx => (hE x (by omega)).trans (hE0 x hx)
  rw [show ad6 37 = ad7 37 from (hE 37 (by decide)).symm] at hl
  rw [show ad6 37 = ad7 37 from (hE 37 (by decide)).symm]
  have hw : aW D dA ad7 adV (aGs 45 [(37, 9), (37, 10), (29, 0), (29, 1), (29, 2), (29, 3), (29, 4), (29, 5), (29, 6), (29, 7)] (zR (zR (zR (zR (zR (zR (zR (pI (pI (pI ι 37 0 (0 : Int32)) 37 1 (1 : Int32)) 37 2 (0 : Int32)) 38) 39) 40) 41) 42) 43) 44)) A s H locs := hw
  refine n_putF (U' := [(37, 10), (29, 0), (29, 1), (29, 2), (29, 3), (29, 4), (29, 5), (29, 6), (29, 7)]) (ty := .array .int) (o := 37) (q := 44) (T := TX2) (N := 11) (ty0 := tyX2) C hin wU_X2 tyX2_ok nmX2 hw (by decide) rfl (by decide) rfl 9 (by decide) rfl wF_X2_40 rfl rfl (by decide +kernel) rfl rfl rfl (uDel_1 (U := [(37, 9), (37, 10), (29, 0), (29, 1), (29, 2), (29, 3), (29, 4), (29, 5), (29, 6), (29, 7)])) (uDel_2 (U := [(37, 9), (37, 10), (29, 0), (29, 1), (29, 2), (29, 3), (29, 4), (29, 5), (29, 6), (29, 7)])) dX2_init_69 (fun H locs hw => ?_)
  have hw : aW D dA ad7 adV (aGs 45 [(37, 10), (29, 0), (29, 1), (29, 2), (29, 3), (29, 4), (29, 5), (29, 6), (29, 7)] (zR (zR (zR (zR (zR (zR (zR (pI (pI (pI ι 37 0 (0 : Int32)) 37 1 (1 : Int32)) 37 2 (0 : Int32)) 38) 39) 40) 41) 42) 43) 44)) A s H locs := hw
  refine lv_aload_n hx hb dX2_init_72 rfl (lv_at hl 0 rfl) ?_
  refine lv_bipush (v := (16 : Int32)) hx hb dX2_init_73 (by decide) ?_
  refine n_newa (U' := [(37, 10), (29, 0), (29, 1), (29, 2), (29, 3), (29, 4), (29, 5), (29, 6), (29, 7)]) (ty := .int) (t := 9) C hw (by decide) rfl (nOk.of (N := ([] : List (Nat × Nat))) (by decide +kernel) (by decide)) wA_9 rfl rfl (Or.inr (Or.inl ⟨rfl, rfl⟩)) (by decide) (by decide) (by decide) (Nat.le_of_ble_eq_true rfl) (Nat.le_of_ble_eq_true rfl) dX2_init_75 (fun ad8 H hE hw => ?_)
  have hE0 : ∀ x, x < 38 ∨ 1000000 ≤ x → ad8 x = ad x := fun x hx => (hE x (by omega)).trans (hE0 x hx)
  rw [show ad7 37 = ad8 37 from (hE 37 (by decide)).symm] at hl
  rw [show ad7 37 = ad8 37 from (hE 37 (by decide)).symm]
  have hw : aW D dA ad8 adV (aGs 46 [(37, 10), (29, 0), (29, 1), (29, 2), (29, 3), (29, 4), (29, 5), (29, 6), (29, 7)] (zR (zR (zR (zR (zR (zR (zR (zR (pI (pI (pI ι 37 0 (0 : Int32)) 37 1 (1 : Int32)) 37 2 (0 : Int32)) 38) 39) 40) 41) 42) 43) 44) 45)) A s H locs := hw
  refine n_putF (U' := [(29, 0), (29, 1), (29, 2), (29, 3), (29, 4), (29, 5), (29, 6), (29, 7)]) (ty := .array .int) (o := 37) (q := 45) (T := TX2) (N := 11) (ty0 := tyX2) C hin wU_X2 tyX2_ok nmX2 hw (by decide) rfl (by decide) rfl 10 (by decide) rfl wF_X2_43 rfl rfl (by decide +kernel) rfl rfl rfl (uDel_1 (U := [(37, 10), (29, 0), (29, 1), (29, 2), (29, 3), (29, 4), (29, 5), (29, 6), (29, 7)])) (uDel_2 (U := [(37, 10), (29, 0), (29, 1), (29, 2), (29, 3), (29, 4), (29, 5), (29, 6), (29, 7)])) dX2_init_77 (fun H locs hw => ?_)
  have hw : aW D dA ad8 adV (aGs 46 [(29, 0), (29, 1), (29, 2), (29, 3), (29, 4), (29, 5), (29, 6), (29, 7)] (zR (zR (zR (zR (zR (zR (zR (zR (pI (pI (pI ι 37 0 (0 : Int32)) 37 1 (1 : Int32)) 37 2 (0 : Int32)) 38) 39) 40) 41) 42) 43) 44) 45)) A s H locs := hw
  refine lv_aload_n hx hb dX2_init_80 rfl (lv_at hl 0 rfl) ?_
  obtain ⟨r81, hr81, hM⟩ := h_b hM
  refine a_callV (σ' := aGs 46 [(29, 0), (29, 1), (29, 2), (29, 3), (29, 4), (29, 5), (29, 6), (29, 7)] r81) (v := none) (o := 37) (As := fun ad => []) (rest := []) C hw (cs_X2_clear l (n9 := 46) (U9 := [(29, 0), (29, 1), (29, 2), (29, 3), (29, 4), (29, 5), (29, 6), (29, 7)]) ⟨lin37, by decide, noU (by decide)⟩ hr81) k_X2_clear wM_X2_46 ⟨⟨rfl, rfl⟩, Nat.le_of_ble_eq_true rfl, Nat.le_of_ble_eq_true rfl⟩ rfl (by decide) rfl rfl rfl hl rfl (by decide) dX2_init_81 ⟨Nat.le_of_ble_eq_true rfl, Nat.le_of_ble_eq_true rfl⟩ (fun H locs hw => ?_)
  cases h_e hM
  exact n_ret C hE0 hw dX2_init_84
set_option maxHeartbeats 400000 in
set_option maxRecDepth 100000 in
theorem ci_X2_init_46 (l : Launch) {ι res : iS} (hM : mi_X2 46 ι = some res) : aMn l yX2_init cX2_init 1 rm_X2_init (fun ad => [.ref (ad 46)]) 47 (aGs 47 [(46, 3), (46, 4), (46, 5), (46, 6), (46, 7), (46, 8), (46, 9), (46, 10), (29, 1), (29, 2), (29, 3), (29, 4), (29, 5), (29, 6), (29, 7)] ι) (aGs 55 [(29, 1), (29, 2), (29, 3), (29, 4), (29, 5), (29, 6), (29, 7)] res) 8 150 := by
  refine aMn.of (by decide) rfl (fun _ => Nat.le_of_ble_eq_true rfl) ?_
  intro p e s m args below meth c D dA ad adV A ls C hin hY hw hl
  have C : aX p m c cX2_init 1 s args aTs RX2 meth none := C
  have hx := C.1.1
  have hb := C.1.2.1
  have hown := C.1.2.2.2.1
  have hts := C.1.2.2.2.2
  have hl : lv_has ls 1 [(0, .ref (ad 46))] := hl
  replace hM : (Option.bind (m_X2_clear 46 (zR (zR (zR (zR (zR (zR (zR (zR (pI (pI (pI ι 46 0 (0 : Int32)) 46 1 (1 : Int32)) 46 2 (0 : Int32)) 47) 48) 49) 50) 51) 52) 53) 54)) fun r81 => some r81) = some res := hM
  refine lv_aload_n hx hb dX2_init_0 rfl (lv_at hl 0 rfl) ?_
  refine n_obj C wM_X2_3 hl dX2_init_1 (Nat.le_of_ble_eq_true rfl) (Nat.le_of_ble_eq_true rfl) ?_
  refine lv_aload_n hx hb dX2_init_4 rfl (lv_at hl 0 rfl) ?_
  refine lv_iconst (v := (0 : Int32)) hx hb dX2_init_5 (by decide) ?_
  refine a_puti (ty := .int) (σ := aGs 47 [(46, 3), (46, 4), (46, 5), (46, 6), (46, 7), (46, 8), (46, 9), (46, 10), (29, 1), (29, 2), (29, 3), (29, 4), (29, 5), (29, 6), (29, 7)] ι) (o := 46) (T := TX2) (N := 11) (ty0 := tyX2) C wU_X2 tyX2_ok nmX2 hw rfl (by decide) rfl 0 (by decide) rfl wF_X2_9 rfl (by decide +kernel) rfl rfl dX2_init_6 (fun H locs hw => ?_)
  have hw : aW D dA ad adV (aGs 47 [(46, 3), (46, 4), (46, 5), (46, 6), (46, 7), (46, 8), (46, 9), (46, 10), (29, 1), (29, 2), (29, 3), (29, 4), (29, 5), (29, 6), (29, 7)] (pI ι 46 0 (0 : Int32))) A s H locs := by rw [aGs_PI] at hw; exact hw
  refine lv_aload_n hx hb dX2_init_9 rfl (lv_at hl 0 rfl) ?_
  refine lv_iconst (v := (1 : Int32)) hx hb dX2_init_10 (by decide) ?_
  refine a_puti (ty := .int) (σ := aGs 47 [(46, 3), (46, 4), (46, 5), (46, 6), (46, 7), (46, 8), (46, 9), (46, 10), (29, 1), (29, 2), (29, 3), (29, 4), (29, 5), (29, 6), (29, 7)] (pI ι 46 0 (0 : Int32))) (o := 46) (T := TX2) (N := 11) (ty0 := tyX2) C wU_X2 tyX2_ok nmX2 hw rfl (by decide) rfl 1 (by decide) rfl wF_X2_15 rfl (by decide +kernel) rfl rfl dX2_init_11 (fun H locs hw => ?_)
  have hw : aW D dA ad adV (aGs 47 [(46, 3), (46, 4), (46, 5), (46, 6), (46, 7), (46, 8), (46, 9), (46, 10), (29, 1), (29, 2), (29, 3), (29, 4), (29, 5), (29, 6), (29, 7)] (pI (pI ι 46 0 (0 : Int32)) 46 1 (1 : Int32))) A s H locs := by rw [aGs_PI] at hw; exact hw
  refine lv_aload_n hx hb dX2_init_14 rfl (lv_at hl 0 rfl) ?_
  refine lv_iconst (v := (0 : Int32)) hx hb dX2_init_15 (by decide) ?_
  refine a_puti (ty := .int) (σ := aGs 47 [(46, 3), (46, 4), (46, 5), (46, 6), (46, 7), (46, 8), (46, 9), (46, 10), (29, 1), (29, 2), (29, 3), (29, 4), (29, 5), (29, 6), (29, 7)] (pI (pI ι 46 0 (0 : Int32)) 46 1 (1 : Int32))) (o := 46) (T := TX2) (N := 11) (ty0 := tyX2) C wU_X2 tyX2_ok nmX2 hw rfl (by decide) rfl 2 (by decide) rfl wF_X2_18 rfl (by decide +kernel) rfl rfl dX2_init_16 (fun H locs hw => ?_)
  have hw : aW D dA ad adV (aGs 47 [(46, 3), (46, 4), (46, 5), (46, 6), (46, 7), (46, 8), (46, 9), (46, 10), (29, 1), (29, 2), (29, 3), (29, 4), (29, 5), (29, 6), (29, 7)] (pI (pI (pI ι 46 0 (0 : Int32)) 46 1 (1 : Int32)) 46 2 (0 : Int32))) A s H locs := by rw [aGs_PI] at hw; exact hw
  refine lv_aload_n hx hb dX2_init_19 rfl (lv_at hl 0 rfl) ?_
  refine lv_bipush (v := (80 : Int32)) hx hb dX2_init_20 (by decide) ?_
  refine n_newa (U' := [(46, 3), (46, 4), (46, 5), (46, 6), (46, 7), (46, 8), (46, 9), (46, 10), (29, 1), (29, 2), (29, 3), (29, 4), (29, 5), (29, 6), (29, 7)]) (ty := .int) (t := 9) C hw (by decide) rfl (nOk.of (N := ([] : List (Nat × Nat))) (by decide +kernel) (by decide)) wA_9 rfl rfl (Or.inr (Or.inl ⟨rfl, rfl⟩)) (by decide) (by decide) (by decide) (Nat.le_of_ble_eq_true rfl) (Nat.le_of_ble_eq_true rfl) dX2_init_22 (fun ad1 H hE hw => ?_)
  have hE0 : ∀ x, x < 47 ∨ 1000000 ≤ x → ad1 x = ad x := fun x hx => (hE x (by omega)).trans (rfl)
  rw [show ad 46 = ad1 46 from (hE 46 (by decide)).symm] at hl
  rw [show ad 46 = ad1 46 from (hE 46 (by decide)).symm]
  have hw : aW D dA ad1 adV (aGs 48 [(46, 3), (46, 4), (46, 5), (46, 6), (46, 7), (46, 8), (46, 9), (46, 10), (29, 1), (29, 2), (29, 3), (29, 4), (29, 5), (29, 6), (29, 7)] (zR (pI (pI (pI ι 46 0 (0 : Int32)) 46 1 (1 : Int32)) 46 2 (0 : Int32)) 47)) A s H locs := hw
  refine n_putF (U' := [(46, 4), (46, 5), (46, 6), (46, 7), (46, 8), (46, 9), (46, 10), (29, 1), (29, 2), (29, 3), (29, 4), (29, 5), (29, 6), (29, 7)]) (ty := .array .int) (o := 46) (q := 47) (T := TX2) (N := 11) (ty0 := tyX2) C hin wU_X2 tyX2_ok nmX2 hw (by decide) rfl (by decide) rfl 3 (by decide) rfl wF_X2_21 rfl rfl (by decide +kernel) rfl rfl rfl (uDel_1 (U := [(46, 3), (46, 4), (46, 5), (46, 6), (46, 7), (46, 8), (46, 9), (46, 10), (29, 1), (29, 2), (29, 3), (29, 4), (29, 5), (29, 6), (29, 7)])) (uDel_2 (U := [(46, 3), (46, 4), (46, 5), (46, 6), (46, 7), (46, 8), (46, 9), (46, 10), (29, 1), (29, 2), (29, 3), (29, 4), (29, 5), (29, 6), (29, 7)])) dX2_init_24 (fun H locs hw => ?_)
  have hw : aW D dA ad1 adV (aGs 48 [(46, 4), (46, 5), (46, 6), (46, 7), (46, 8), (46, 9), (46, 10), (29, 1), (29, 2), (29, 3), (29, 4), (29, 5), (29, 6), (29, 7)] (zR (pI (pI (pI ι 46 0 (0 : Int32)) 46 1 (1 : Int32)) 46 2 (0 : Int32)) 47)) A s H locs := hw
  refine lv_aload_n hx hb dX2_init_27 rfl (lv_at hl 0 rfl) ?_
  refine lv_iconst (v := (5 : Int32)) hx hb dX2_init_28 (by decide) ?_
  refine n_newa (U' := [(46, 4), (46, 5), (46, 6), (46, 7), (46, 8), (46, 9), (46, 10), (29, 1), (29, 2), (29, 3), (29, 4), (29, 5), (29, 6), (29, 7)]) (ty := .int) (t := 9) C hw (by decide) rfl (nOk.of (N := ([] : List (Nat × Nat))) (by decide +kernel) (by decide)) wA_9 rfl rfl (Or.inr (Or.inl ⟨rfl, rfl⟩)) (by decide) (by decide) (by decide) (Nat.le_of_ble_eq_true rfl) (Nat.le_of_ble_eq_true rfl) dX2_init_29 (fun ad2 H hE hw => ?_)
  have hE0 : ∀ x, x < 47 ∨ 1000000 ≤ x → ad2 x = ad x := fun x hx => (hE x (by omega)).trans (hE0 x hx)
  rw [show ad1 46 = ad2 46 from (hE 46 (by decide)).symm] at hl
  rw [show ad1 46 = ad2 46 from (hE 46 (by decide)).symm]
  have hw : aW D dA ad2 adV (aGs 49 [(46, 4), (46, 5), (46, 6), (46, 7), (46, 8), (46, 9), (46, 10), (29, 1), (29, 2), (29, 3), (29, 4), (29, 5), (29, 6), (29, 7)] (zR (zR (pI (pI (pI ι 46 0 (0 : Int32)) 46 1 (1 : Int32)) 46 2 (0 : Int32)) 47) 48)) A s H locs := hw
  refine n_putF (U' := [(46, 5), (46, 6), (46, 7), (46, 8), (46, 9), (46, 10), (29, 1), (29, 2), (29, 3), (29, 4), (29, 5), (29, 6), (29, 7)]) (ty := .array .int) (o := 46) (q := 48) (T := TX2) (N := 11) (ty0 := tyX2) C hin wU_X2 tyX2_ok nmX2 hw (by decide) rfl (by decide) rfl 4 (by decide) rfl wF_X2_25 rfl rfl (by decide +kernel) rfl rfl rfl (uDel_1 (U := [(46, 4), (46, 5), (46, 6), (46, 7), (46, 8), (46, 9), (46, 10), (29, 1), (29, 2), (29, 3), (29, 4), (29, 5), (29, 6), (29, 7)])) (uDel_2 (U := [(46, 4), (46, 5), (46, 6), (46, 7), (46, 8), (46, 9), (46, 10), (29, 1), (29, 2), (29, 3), (29, 4), (29, 5), (29, 6), (29, 7)])) dX2_init_31 (fun H locs hw => ?_)
  have hw : aW D dA ad2 adV (aGs 49 [(46, 5), (46, 6), (46, 7), (46, 8), (46, 9), (46, 10), (29, 1), (29, 2), (29, 3), (29, 4), (29, 5), (29, 6), (29, 7)] (zR (zR (pI (pI (pI ι 46 0 (0 : Int32)) 46 1 (1 : Int32)) 46 2 (0 : Int32)) 47) 48)) A s H locs := hw
  refine lv_aload_n hx hb dX2_init_34 rfl (lv_at hl 0 rfl) ?_
  refine lv_iconst (v := (5 : Int32)) hx hb dX2_init_35 (by decide) ?_
  refine n_newa (U' := [(46, 5), (46, 6), (46, 7), (46, 8), (46, 9), (46, 10), (29, 1), (29, 2), (29, 3), (29, 4), (29, 5), (29, 6), (29, 7)]) (ty := .int) (t := 9) C hw (by decide) rfl (nOk.of (N := ([] : List (Nat × Nat))) (by decide +kernel) (by decide)) wA_9 rfl rfl (Or.inr (Or.inl ⟨rfl, rfl⟩)) (by decide) (by decide) (by decide) (Nat.le_of_ble_eq_true rfl) (Nat.le_of_ble_eq_true rfl) dX2_init_36 (fun ad3 H hE hw => ?_)
  have hE0 : ∀ x, x < 47 ∨ 1000000 ≤ x → ad3 x = ad x := fun x hx => (hE x (by omega)).trans (hE0 x hx)
  rw [show ad2 46 = ad3 46 from (hE 46 (by decide)).symm] at hl
  rw [show ad2 46 = ad3 46 from (hE 46 (by decide)).symm]
  have hw : aW D dA ad3 adV (aGs 50 [(46, 5), (46, 6), (46, 7), (46, 8), (46, 9), (46, 10), (29, 1), (29, 2), (29, 3), (29, 4), (29, 5), (29, 6), (29, 7)] (zR (zR (zR (pI (pI (pI ι 46 0 (0 : Int32)) 46 1 (1 : Int32)) 46 2 (0 : Int32)) 47) 48) 49)) A s H locs := hw
  refine n_putF (U' := [(46, 6), (46, 7), (46, 8), (46, 9), (46, 10), (29, 1), (29, 2), (29, 3), (29, 4), (29, 5), (29, 6), (29, 7)]) (ty := .array .int) (o := 46) (q := 49) (T := TX2) (N := 11) (ty0 := tyX2) C hin wU_X2 tyX2_ok nmX2 hw (by decide) rfl (by decide) rfl 5 (by decide) rfl wF_X2_28 rfl rfl (by decide +kernel) rfl rfl rfl (uDel_1 (U := [(46, 5), (46, 6), (46, 7), (46, 8), (46, 9), (46, 10), (29, 1), (29, 2), (29, 3), (29, 4), (29, 5), (29, 6), (29, 7)])) (uDel_2 (U := [(46, 5), (46, 6), (46, 7), (46, 8), (46, 9), (46, 10), (29, 1), (29, 2), (29, 3), (29, 4), (29, 5), (29, 6), (29, 7)])) dX2_init_38 (fun H locs hw => ?_)
  have hw : aW D dA ad3 adV (aGs 50 [(46, 6), (46, 7), (46, 8), (46, 9), (46, 10), (29, 1), (29, 2), (29, 3), (29, 4), (29, 5), (29, 6), (29, 7)] (zR (zR (zR (pI (pI (pI ι 46 0 (0 : Int32)) 46 1 (1 : Int32)) 46 2 (0 : Int32)) 47) 48) 49)) A s H locs := hw
  refine lv_aload_n hx hb dX2_init_41 rfl (lv_at hl 0 rfl) ?_
  refine lv_iconst (v := (4 : Int32)) hx hb dX2_init_42 (by decide) ?_
  refine n_newa (U' := [(46, 6), (46, 7), (46, 8), (46, 9), (46, 10), (29, 1), (29, 2), (29, 3), (29, 4), (29, 5), (29, 6), (29, 7)]) (ty := .int) (t := 9) C hw (by decide) rfl (nOk.of (N := ([] : List (Nat × Nat))) (by decide +kernel) (by decide)) wA_9 rfl rfl (Or.inr (Or.inl ⟨rfl, rfl⟩)) (by decide) (by decide) (by decide) (Nat.le_of_ble_eq_true rfl) (Nat.le_of_ble_eq_true rfl) dX2_init_43 (fun ad4 H hE hw => ?_)
  have hE0 : ∀ x, x < 47 ∨ 1000000 ≤ x → ad4 x = ad x := fun x hx => (hE x (by omega)).trans (hE0 x hx)
  rw [show ad3 46 = ad4 46 from (hE 46 (by decide)).symm] at hl
  rw [show ad3 46 = ad4 46 from (hE 46 (by decide)).symm]
  have hw : aW D dA ad4 adV (aGs 51 [(46, 6), (46, 7), (46, 8), (46, 9), (46, 10), (29, 1), (29, 2), (29, 3), (29, 4), (29, 5), (29, 6), (29, 7)] (zR (zR (zR (zR (pI (pI (pI ι 46 0 (0 : Int32)) 46 1 (1 : Int32)) 46 2 (0 : Int32)) 47) 48) 49) 50)) A s H locs := hw
  refine n_putF (U' := [(46, 7), (46, 8), (46, 9), (46, 10), (29, 1), (29, 2), (29, 3), (29, 4), (29, 5), (29, 6), (29, 7)]) (ty := .array .int) (o := 46) (q := 50) (T := TX2) (N := 11) (ty0 := tyX2) C hin wU_X2 tyX2_ok nmX2 hw (by decide) rfl (by decide) rfl 6 (by decide) rfl wF_X2_31 rfl rfl (by decide +kernel) rfl rfl rfl (uDel_1 (U := [(46, 6), (46, 7), (46, 8), (46, 9), (46, 10), (29, 1), (29, 2), (29, 3), (29, 4), (29, 5), (29, 6), (29, 7)])) (uDel_2 (U := [(46, 6), (46, 7), (46, 8), (46, 9), (46, 10), (29, 1), (29, 2), (29, 3), (29, 4), (29, 5), (29, 6), (29, 7)])) dX2_init_45 (fun H locs hw => ?_)
  have hw : aW D dA ad4 adV (aGs 51 [(46, 7), (46, 8), (46, 9), (46, 10), (29, 1), (29, 2), (29, 3), (29, 4), (29, 5), (29, 6), (29, 7)] (zR (zR (zR (zR (pI (pI (pI ι 46 0 (0 : Int32)) 46 1 (1 : Int32)) 46 2 (0 : Int32)) 47) 48) 49) 50)) A s H locs := hw
  refine lv_aload_n hx hb dX2_init_48 rfl (lv_at hl 0 rfl) ?_
  refine lv_bipush (v := (8 : Int32)) hx hb dX2_init_49 (by decide) ?_
  refine n_newa (U' := [(46, 7), (46, 8), (46, 9), (46, 10), (29, 1), (29, 2), (29, 3), (29, 4), (29, 5), (29, 6), (29, 7)]) (ty := .int) (t := 9) C hw (by decide) rfl (nOk.of (N := ([] : List (Nat × Nat))) (by decide +kernel) (by decide)) wA_9 rfl rfl (Or.inr (Or.inl ⟨rfl, rfl⟩)) (by decide) (by decide) (by decide) (Nat.le_of_ble_eq_true rfl) (Nat.le_of_ble_eq_true rfl) dX2_init_51 (fun ad5 H hE hw => ?_)
  have hE0 : ∀ x, x < 47 ∨ 1000000 ≤ x → ad5 x = ad x := fun x hx => (hE x (by omega)).trans (hE0 x hx)
  rw [show ad4 46 = ad5 46 from (hE 46 (by decide)).symm] at hl
  rw [show ad4 46 = ad5 46 from (hE 46 (by decide)).symm]
  have hw : aW D dA ad5 adV (aGs 52 [(46, 7), (46, 8), (46, 9), (46, 10), (29, 1), (29, 2), (29, 3), (29, 4), (29, 5), (29, 6), (29, 7)] (zR (zR (zR (zR (zR (pI (pI (pI ι 46 0 (0 : Int32)) 46 1 (1 : Int32)) 46 2 (0 : Int32)) 47) 48) 49) 50) 51)) A s H locs := hw
  refine n_putF (U' := [(46, 8), (46, 9), (46, 10), (29, 1), (29, 2), (29, 3), (29, 4), (29, 5), (29, 6), (29, 7)]) (ty := .array .int) (o := 46) (q := 51) (T := TX2) (N := 11) (ty0 := tyX2) C hin wU_X2 tyX2_ok nmX2 hw (by decide) rfl (by decide) rfl 7 (by decide) rfl wF_X2_34 rfl rfl (by decide +kernel) rfl rfl rfl (uDel_1 (U := [(46, 7), (46, 8), (46, 9), (46, 10), (29, 1), (29, 2), (29, 3), (29, 4), (29, 5), (29, 6), (29, 7)])) (uDel_2 (U := [(46, 7), (46, 8), (46, 9), (46, 10), (29, 1), (29, 2), (29, 3), (29, 4), (29, 5), (29, 6), (29, 7)])) dX2_init_53 (fun H locs hw => ?_)
  have hw : aW D dA ad5 adV (aGs 52 [(46, 8), (46, 9), (46, 10), (29, 1), (29, 2), (29, 3), (29, 4), (29, 5), (29, 6), (29, 7)] (zR (zR (zR (zR (zR (pI (pI (pI ι 46 0 (0 : Int32)) 46 1 (1 : Int32)) 46 2 (0 : Int32)) 47) 48) 49) 50) 51)) A s H locs := hw
  refine lv_aload_n hx hb dX2_init_56 rfl (lv_at hl 0 rfl) ?_
  refine lv_bipush (v := (16 : Int32)) hx hb dX2_init_57 (by decide) ?_
  refine n_newa (U' := [(46, 8), (46, 9), (46, 10), (29, 1), (29, 2), (29, 3), (29, 4), (29, 5), (29, 6), (29, 7)]) (ty := .int) (t := 9) C hw (by decide) rfl (nOk.of (N := ([] : List (Nat × Nat))) (by decide +kernel) (by decide)) wA_9 rfl rfl (Or.inr (Or.inl ⟨rfl, rfl⟩)) (by decide) (by decide) (by decide) (Nat.le_of_ble_eq_true rfl) (Nat.le_of_ble_eq_true rfl) dX2_init_59 (fun ad6 H hE hw => ?_)
  have hE0 : ∀ x, x < 47 ∨ 1000000 ≤ x → ad6 x = ad x := fun x hx => (hE x (by omega)).trans (hE0 x hx)
  rw [show ad5 46 = ad6 46 from (hE 46 (by decide)).symm] at hl
  rw [show ad5 46 = ad6 46 from (hE 46 (by decide)).symm]
  have hw : aW D dA ad6 adV (aGs 53 [(46, 8), (46, 9), (46, 10), (29, 1), (29, 2), (29, 3), (29, 4), (29, 5), (29, 6), (29, 7)] (zR (zR (zR (zR (zR (zR (pI (pI (pI ι 46 0 (0 : Int32)) 46 1 (1 : Int32)) 46 2 (0 : Int32)) 47) 48) 49) 50) 51) 52)) A s H locs := hw
  refine n_putF (U' := [(46, 9), (46, 10), (29, 1), (29, 2), (29, 3), (29, 4), (29, 5), (29, 6), (29, 7)]) (ty := .array .int) (o := 46) (q := 52) (T := TX2) (N := 11) (ty0 := tyX2) C hin wU_X2 tyX2_ok nmX2 hw (by decide) rfl (by decide) rfl 8 (by decide) rfl wF_X2_37 rfl rfl (by decide +kernel) rfl rfl rfl (uDel_1 (U := [(46, 8), (46, 9), (46, 10), (29, 1), (29, 2), (29, 3), (29, 4), (29, 5), (29, 6), (29, 7)])) (uDel_2 (U := [(46, 8), (46, 9), (46, 10), (29, 1), (29, 2), (29, 3), (29, 4), (29, 5), (29, 6), (29, 7)])) dX2_init_61 (fun H locs hw => ?_)
  have hw : aW D dA ad6 adV (aGs 53 [(46, 9), (46, 10), (29, 1), (29, 2), (29, 3), (29, 4), (29, 5), (29, 6), (29, 7)] (zR (zR (zR (zR (zR (zR (pI (pI (pI ι 46 0 (0 : Int32)) 46 1 (1 : Int32)) 46 2 (0 : Int32)) 47) 48) 49) 50) 51) 52)) A s H locs := hw
  refine lv_aload_n hx hb dX2_init_64 rfl (lv_at hl 0 rfl) ?_
  refine lv_bipush (v := (16 : Int32)) hx hb dX2_init_65 (by decide) ?_
  refine n_newa (U' := [(46, 9), (46, 10), (29, 1), (29, 2), (29, 3), (29, 4), (29, 5), (29, 6), (29, 7)]) (ty := .int) (t := 9) C hw (by decide) rfl (nOk.of (N := ([] : List (Nat × Nat))) (by decide +kernel) (by decide)) wA_9 rfl rfl (Or.inr (Or.inl ⟨rfl, rfl⟩)) (by decide) (by decide) (by decide) (Nat.le_of_ble_eq_true rfl) (Nat.le_of_ble_eq_true rfl) dX2_init_67 (fun ad7 H hE hw => ?_)
  have hE0 : ∀ x, x < 47 ∨ 1000000 ≤ x → ad7 x = ad x := fun x hx => (hE x (by omega)).trans (hE0 x hx)
  rw [show ad6 46 = ad7 46 from (hE 46 (by decide)).symm] at hl
  rw [show ad6 46 = ad7 46 from (hE 46 (by decide)).symm]
  have hw : aW D dA ad7 adV (aGs 54 [(46, 9), (46, 10), (29, 1), (29, 2), (29, 3), (29, 4), (29, 5), (29, 6), (29, 7)] (zR (zR (zR (zR (zR (zR (zR (pI (pI (pI ι 46 0 (0 : Int32)) 46 1 (1 : Int32)) 46 2 (0 : Int32)) 47) 48) 49) 50) 51) 52) 53)) A s H locs := hw
  refine n_putF (U' := [(46, 10), (29, 1), (29, 2), (29, 3), (29, 4), (29, 5), (29, 6), (29, 7)]) (ty := .array .int) (o := 46) (q := 53) (T := TX2) (N := 11) (ty0 := tyX2) C hin wU_X2 tyX2_ok nmX2 hw (by decide) rfl (by decide) rfl 9 (by decide) rfl wF_X2_40 rfl rfl (by decide +kernel) rfl rfl rfl (uDel_1 (U := [(46, 9), (46, 10), (29, 1), (29, 2), (29, 3), (29, 4), (29, 5), (29, 6), (29, 7)])) (uDel_2 (U := [(46, 9), (46, 10), (29, 1), (29, 2), (29, 3), (29, 4), (29, 5), (29, 6), (29, 7)])) dX2_init_69 (fun H locs hw => ?_)
  have hw : aW D dA ad7 adV (aGs 54 [(46, 10), (29, 1), (29, 2), (29, 3), (29, 4), (29, 5), (29, 6), (29, 7)] (zR (zR (zR (zR (zR (zR (zR (pI (pI (pI ι 46 0 (0 : Int32)) 46 1 (1 : Int32)) 46 2 (0 : Int32)) 47) 48) 49) 50) 51) 52) 53)) A s H locs := hw
  refine lv_aload_n hx hb dX2_init_72 rfl (lv_at hl 0 rfl) ?_
  refine lv_bipush (v := (16 : Int32)) hx hb dX2_init_73 (by decide) ?_
  refine n_newa (U' := [(46, 10), (29, 1), (29, 2), (29, 3), (29, 4), (29, 5), (29, 6), (29, 7)]) (ty := .int) (t := 9) C hw (by decide) rfl (nOk.of (N := ([] : List (Nat × Nat))) (by decide +kernel) (by decide)) wA_9 rfl rfl (Or.inr (Or.inl ⟨rfl, rfl⟩)) (by decide) (by decide) (by decide) (Nat.le_of_ble_eq_true rfl) (Nat.le_of_ble_eq_true rfl) dX2_init_75 (fun ad8 H hE hw => ?_)
  have hE0 : ∀ x, x < 47 ∨ 1000000 ≤ x → ad8 x = ad x := fun x hx => (hE x (by omega)).trans (hE0 x hx)
  rw [show ad7 46 = ad8 46 from (hE 46 (by decide)).symm] at hl
  rw [show ad7 46 = ad8 46 from (hE 46 (by decide)).symm]
  have hw : aW D dA ad8 adV (aGs 55 [(46, 10), (29, 1), (29, 2), (29, 3), (29, 4), (29, 5), (29, 6), (29, 7)] (zR (zR (zR (zR (zR (zR (zR (zR (pI (pI (pI ι 46 0 (0 : Int32)) 46 1 (1 : Int32)) 46 2 (0 : Int32)) 47) 48) 49) 50) 51) 52) 53) 54)) A s H locs := hw
  refine n_putF (U' := [(29, 1), (29, 2), (29, 3), (29, 4), (29, 5), (29, 6), (29, 7)]) (ty := .array .int) (o := 46) (q := 54) (T := TX2) (N := 11) (ty0 := tyX2) C hin wU_X2 tyX2_ok nmX2 hw (by decide) rfl (by decide) rfl 10 (by decide) rfl wF_X2_43 rfl rfl (by decide +kernel) rfl rfl rfl (uDel_1 (U := [(46, 10), (29, 1), (29, 2), (29, 3), (29, 4), (29, 5), (29, 6), (29, 7)])) (uDel_2 (U := [(46, 10), (29, 1), (29, 2), (29, 3), (29, 4), (29, 5), (29, 6), (29, 7)])) dX2_init_77 (fun H locs hw => ?_)
  have hw : aW D dA ad8 adV (aGs 55 [(29, 1), (29, 2), (29, 3), (29, 4), (29, 5), (29, 6), (29, 7)] (zR (zR (zR (zR (zR (zR (zR (zR (pI (pI (pI ι 46 0 (0 : Int32)) 46 1 (1 : Int32)) 46 2 (0 : Int32)) 47) 48) 49) 50) 51) 52) 53) 54)) A s H locs := hw
  refine lv_aload_n hx hb dX2_init_80 rfl (lv_at hl 0 rfl) ?_
  obtain ⟨r81, hr81, hM⟩ := h_b hM
  refine a_callV (σ' := aGs 55 [(29, 1), (29, 2), (29, 3), (29, 4), (29, 5), (29, 6), (29, 7)] r81) (v := none) (o := 46) (As := fun ad => []) (rest := []) C hw (cs_X2_clear l (n9 := 55) (U9 := [(29, 1), (29, 2), (29, 3), (29, 4), (29, 5), (29, 6), (29, 7)]) ⟨lin46, by decide, noU (by decide)⟩ hr81) k_X2_clear wM_X2_46 ⟨⟨rfl, rfl⟩, Nat.le_of_ble_eq_true rfl, Nat.le_of_ble_eq_true rfl⟩ rfl (by decide) rfl rfl rfl hl rfl (by decide) dX2_init_81 ⟨Nat.le_of_ble_eq_true rfl, Nat.le_of_ble_eq_true rfl⟩ (fun H locs hw => ?_)
  cases h_e hM
  exact n_ret C hE0 hw dX2_init_84
set_option maxHeartbeats 400000 in
set_option maxRecDepth 100000 in
theorem ci_X2_init_55 (l : Launch) {ι res : iS} (hM : mi_X2 55 ι = some res) : aMn l yX2_init cX2_init 1 rm_X2_init (fun ad => [.ref (ad 55)]) 56 (aGs 56 [(55, 3), (55, 4), (55, 5), (55, 6), (55, 7), (55, 8), (55, 9), (55, 10), (29, 2), (29, 3), (29, 4), (29, 5), (29, 6), (29, 7)] ι) (aGs 64 [(29, 2), (29, 3), (29, 4), (29, 5), (29, 6), (29, 7)] res) 8 150 := by
  refine aMn.of (by decide) rfl (fun _ => Nat.le_of_ble_eq_true rfl) ?_
  intro p e s m args below meth c D dA ad adV A ls C hin hY hw hl
  have C : aX p m c cX2_init 1 s args aTs RX2 meth none := C
  have hx := C.1.1
  have hb := C.1.2.1
  have hown := C.1.2.2.2.1
  have hts := C.1.2.2.2.2
  have hl : lv_has ls 1 [(0, .ref (ad 55))] := hl
  replace hM : (Option.bind (m_X2_clear 55 (zR (zR (zR (zR (zR (zR (zR (zR (pI (pI (pI ι 55 0 (0 : Int32)) 55 1 (1 : Int32)) 55 2 (0 : Int32)) 56) 57) 58) 59) 60) 61) 62) 63)) fun r81 => some r81) = some res := hM
  refine lv_aload_n hx hb dX2_init_0 rfl (lv_at hl 0 rfl) ?_
  refine n_obj C wM_X2_3 hl dX2_init_1 (Nat.le_of_ble_eq_true rfl) (Nat.le_of_ble_eq_true rfl) ?_
  refine lv_aload_n hx hb dX2_init_4 rfl (lv_at hl 0 rfl) ?_
  refine lv_iconst (v := (0 : Int32)) hx hb dX2_init_5 (by decide) ?_
  refine a_puti (ty := .int) (σ := aGs 56 [(55, 3), (55, 4), (55, 5), (55, 6), (55, 7), (55, 8), (55, 9), (55, 10), (29, 2), (29, 3), (29, 4), (29, 5), (29, 6), (29, 7)] ι) (o := 55) (T := TX2) (N := 11) (ty0 := tyX2) C wU_X2 tyX2_ok nmX2 hw rfl (by decide) rfl 0 (by decide) rfl wF_X2_9 rfl (by decide +kernel) rfl rfl dX2_init_6 (fun H locs hw => ?_)
  have hw : aW D dA ad adV (aGs 56 [(55, 3), (55, 4), (55, 5), (55, 6), (55, 7), (55, 8), (55, 9), (55, 10), (29, 2), (29, 3), (29, 4), (29, 5), (29, 6), (29, 7)] (pI ι 55 0 (0 : Int32))) A s H locs := by rw [aGs_PI] at hw; exact hw
  refine lv_aload_n hx hb dX2_init_9 rfl (lv_at hl 0 rfl) ?_
  refine lv_iconst (v := (1 : Int32)) hx hb dX2_init_10 (by decide) ?_
  refine a_puti (ty := .int) (σ := aGs 56 [(55, 3), (55, 4), (55, 5), (55, 6), (55, 7), (55, 8), (55, 9), (55, 10), (29, 2), (29, 3), (29, 4), (29, 5), (29, 6), (29, 7)] (pI ι 55 0 (0 : Int32))) (o := 55) (T := TX2) (N := 11) (ty0 := tyX2) C wU_X2 tyX2_ok nmX2 hw rfl (by decide) rfl 1 (by decide) rfl wF_X2_15 rfl (by decide +kernel) rfl rfl dX2_init_11 (fun H locs hw => ?_)
  have hw : aW D dA ad adV (aGs 56 [(55, 3), (55, 4), (55, 5), (55, 6), (55, 7), (55, 8), (55, 9), (55, 10), (29, 2), (29, 3), (29, 4), (29, 5), (29, 6), (29, 7)] (pI (pI ι 55 0 (0 : Int32)) 55 1 (1 : Int32))) A s H locs := by rw [aGs_PI] at hw; exact hw
  refine lv_aload_n hx hb dX2_init_14 rfl (lv_at hl 0 rfl) ?_
  refine lv_iconst (v := (0 : Int32)) hx hb dX2_init_15 (by decide) ?_
  refine a_puti (ty := .int) (σ := aGs 56 [(55, 3), (55, 4), (55, 5), (55, 6), (55, 7), (55, 8), (55, 9), (55, 10), (29, 2), (29, 3), (29, 4), (29, 5), (29, 6), (29, 7)] (pI (pI ι 55 0 (0 : Int32)) 55 1 (1 : Int32))) (o := 55) (T := TX2) (N := 11) (ty0 := tyX2) C wU_X2 tyX2_ok nmX2 hw rfl (by decide) rfl 2 (by decide) rfl wF_X2_18 rfl (by decide +kernel) rfl rfl dX2_init_16 (fun H locs hw => ?_)
  have hw : aW D dA ad adV (aGs 56 [(55, 3), (55, 4), (55, 5), (55, 6), (55, 7), (55, 8), (55, 9), (55, 10), (29, 2), (29, 3), (29, 4), (29, 5), (29, 6), (29, 7)] (pI (pI (pI ι 55 0 (0 : Int32)) 55 1 (1 : Int32)) 55 2 (0 : Int32))) A s H locs := by rw [aGs_PI] at hw; exact hw
  refine lv_aload_n hx hb dX2_init_19 rfl (lv_at hl 0 rfl) ?_
  refine lv_bipush (v := (80 : Int32)) hx hb dX2_init_20 (by decide) ?_
  refine n_newa (U' := [(55, 3), (55, 4), (55, 5), (55, 6), (55, 7), (55, 8), (55, 9), (55, 10), (29, 2), (29, 3), (29, 4), (29, 5), (29, 6), (29, 7)]) (ty := .int) (t := 9) C hw (by decide) rfl (nOk.of (N := ([] : List (Nat × Nat))) (by decide +kernel) (by decide)) wA_9 rfl rfl (Or.inr (Or.inl ⟨rfl, rfl⟩)) (by decide) (by decide) (by decide) (Nat.le_of_ble_eq_true rfl) (Nat.le_of_ble_eq_true rfl) dX2_init_22 (fun ad1 H hE hw => ?_)
  have hE0 : ∀ x, x < 56 ∨ 1000000 ≤ x → ad1 x = ad x := fun x hx => (hE x (by omega)).trans (rfl)
  rw [show ad 55 = ad1 55 from (hE 55 (by decide)).symm] at hl
  rw [show ad 55 = ad1 55 from (hE 55 (by decide)).symm]
  have hw : aW D dA ad1 adV (aGs 57 [(55, 3), (55, 4), (55, 5), (55, 6), (55, 7), (55, 8), (55, 9), (55, 10), (29, 2), (29, 3), (29, 4), (29, 5), (29, 6), (29, 7)] (zR (pI (pI (pI ι 55 0 (0 : Int32)) 55 1 (1 : Int32)) 55 2 (0 : Int32)) 56)) A s H locs := hw
  refine n_putF (U' := [(55, 4), (55, 5), (55, 6), (55, 7), (55, 8), (55, 9), (55, 10), (29, 2), (29, 3), (29, 4), (29, 5), (29, 6), (29, 7)]) (ty := .array .int) (o := 55) (q := 56) (T := TX2) (N := 11) (ty0 := tyX2) C hin wU_X2 tyX2_ok nmX2 hw (by decide) rfl (by decide) rfl 3 (by decide) rfl wF_X2_21 rfl rfl (by decide +kernel) rfl rfl rfl (uDel_1 (U := [(55, 3), (55, 4), (55, 5), (55, 6), (55, 7), (55, 8), (55, 9), (55, 10), (29, 2), (29, 3), (29, 4), (29, 5), (29, 6), (29, 7)])) (uDel_2 (U := [(55, 3), (55, 4), (55, 5), (55, 6), (55, 7), (55, 8), (55, 9), (55, 10), (29, 2), (29, 3), (29, 4), (29, 5), (29, 6), (29, 7)])) dX2_init_24 (fun H locs hw => ?_)
  have hw : aW D dA ad1 adV (aGs 57 [(55, 4), (55, 5), (55, 6), (55, 7), (55, 8), (55, 9), (55, 10), (29, 2), (29, 3), (29, 4), (29, 5), (29, 6), (29, 7)] (zR (pI (pI (pI ι 55 0 (0 : Int32)) 55 1 (1 : Int32)) 55 2 (0 : Int32)) 56)) A s H locs := hw
  refine lv_aload_n hx hb dX2_init_27 rfl (lv_at hl 0 rfl) ?_
  refine lv_iconst (v := (5 : Int32)) hx hb dX2_init_28 (by decide) ?_
  refine n_newa (U' := [(55, 4), (55, 5), (55, 6), (55, 7), (55, 8), (55, 9), (55, 10), (29, 2), (29, 3), (29, 4), (29, 5), (29, 6), (29, 7)]) (ty := .int) (t := 9) C hw (by decide) rfl (nOk.of (N := ([] : List (Nat × Nat))) (by decide +kernel) (by decide)) wA_9 rfl rfl (Or.inr (Or.inl ⟨rfl, rfl⟩)) (by decide) (by decide) (by decide) (Nat.le_of_ble_eq_true rfl) (Nat.le_of_ble_eq_true rfl) dX2_init_29 (fun ad2 H hE hw => ?_)
  have hE0 : ∀ x, x < 56 ∨ 1000000 ≤ x → ad2 x = ad x := fun x hx => (hE x (by omega)).trans (hE0 x hx)
  rw [show ad1 55 = ad2 55 from (hE 55 (by decide)).symm] at hl
  rw [show ad1 55 = ad2 55 from (hE 55 (by decide)).symm]
  have hw : aW D dA ad2 adV (aGs 58 [(55, 4), (55, 5), (55, 6), (55, 7), (55, 8), (55, 9), (55, 10), (29, 2), (29, 3), (29, 4), (29, 5), (29, 6), (29, 7)] (zR (zR (pI (pI (pI ι 55 0 (0 : Int32)) 55 1 (1 : Int32)) 55 2 (0 : Int32)) 56) 57)) A s H locs := hw
  refine n_putF (U' := [(55, 5), (55, 6), (55, 7), (55, 8), (55, 9), (55, 10), (29, 2), (29, 3), (29, 4), (29, 5), (29, 6), (29, 7)]) (ty := .array .int) (o := 55) (q := 57) (T := TX2) (N := 11) (ty0 := tyX2) C hin wU_X2 tyX2_ok nmX2 hw (by decide) rfl (by decide) rfl 4 (by decide) rfl wF_X2_25 rfl rfl (by decide +kernel) rfl rfl rfl (uDel_1 (U := [(55, 4), (55, 5), (55, 6), (55, 7), (55, 8), (55, 9), (55, 10), (29, 2), (29, 3), (29, 4), (29, 5), (29, 6), (29, 7)])) (uDel_2 (U := [(55, 4), (55, 5), (55, 6), (55, 7), (55, 8), (55, 9), (55, 10), (29, 2), (29, 3), (29, 4), (29, 5), (29, 6), (29, 7)])) dX2_init_31 (fun H locs hw => ?_)
  have hw : aW D dA ad2 adV (aGs 58 [(55, 5), (55, 6), (55, 7), (55, 8), (55, 9), (55, 10), (29, 2), (29, 3), (29, 4), (29, 5), (29, 6), (29, 7)] (zR (zR (pI (pI (pI ι 55 0 (0 : Int32)) 55 1 (1 : Int32)) 55 2 (0 : Int32)) 56) 57)) A s H locs := hw
  refine lv_aload_n hx hb dX2_init_34 rfl (lv_at hl 0 rfl) ?_
  refine lv_iconst (v := (5 : Int32)) hx hb dX2_init_35 (by decide) ?_
  refine n_newa (U' := [(55, 5), (55, 6), (55, 7), (55, 8), (55, 9), (55, 10), (29, 2), (29, 3), (29, 4), (29, 5), (29, 6), (29, 7)]) (ty := .int) (t := 9) C hw (by decide) rfl (nOk.of (N := ([] : List (Nat × Nat))) (by decide +kernel) (by decide)) wA_9 rfl rfl (Or.inr (Or.inl ⟨rfl, rfl⟩)) (by decide) (by decide) (by decide) (Nat.le_of_ble_eq_true rfl) (Nat.le_of_ble_eq_true rfl) dX2_init_36 (fun ad3 H hE hw => ?_)
  have hE0 : ∀ x, x < 56 ∨ 1000000 ≤ x → ad3 x = ad x := fun x hx => (hE x (by omega)).trans (hE0 x hx)
  rw [show ad2 55 = ad3 55 from (hE 55 (by decide)).symm] at hl
  rw [show ad2 55 = ad3 55 from (hE 55 (by decide)).symm]
  have hw : aW D dA ad3 adV (aGs 59 [(55, 5), (55, 6), (55, 7), (55, 8), (55, 9), (55, 10), (29, 2), (29, 3), (29, 4), (29, 5), (29, 6), (29, 7)] (zR (zR (zR (pI (pI (pI ι 55 0 (0 : Int32)) 55 1 (1 : Int32)) 55 2 (0 : Int32)) 56) 57) 58)) A s H locs := hw
  refine n_putF (U' := [(55, 6), (55, 7), (55, 8), (55, 9), (55, 10), (29, 2), (29, 3), (29, 4), (29, 5), (29, 6), (29, 7)]) (ty := .array .int) (o := 55) (q := 58) (T := TX2) (N := 11) (ty0 := tyX2) C hin wU_X2 tyX2_ok nmX2 hw (by decide) rfl (by decide) rfl 5 (by decide) rfl wF_X2_28 rfl rfl (by decide +kernel) rfl rfl rfl (uDel_1 (U := [(55, 5), (55, 6), (55, 7), (55, 8), (55, 9), (55, 10), (29, 2), (29, 3), (29, 4), (29, 5), (29, 6), (29, 7)])) (uDel_2 (U := [(55, 5), (55, 6), (55, 7), (55, 8), (55, 9), (55, 10), (29, 2), (29, 3), (29, 4), (29, 5), (29, 6), (29, 7)])) dX2_init_38 (fun H locs hw => ?_)
  have hw : aW D dA ad3 adV (aGs 59 [(55, 6), (55, 7), (55, 8), (55, 9), (55, 10), (29, 2), (29, 3), (29, 4), (29, 5), (29, 6), (29, 7)] (zR (zR (zR (pI (pI (pI ι 55 0 (0 : Int32)) 55 1 (1 : Int32)) 55 2 (0 : Int32)) 56) 57) 58)) A s H locs := hw
  refine lv_aload_n hx hb dX2_init_41 rfl (lv_at hl 0 rfl) ?_
  refine lv_iconst (v := (4 : Int32)) hx hb dX2_init_42 (by decide) ?_
  refine n_newa (U' := [(55, 6), (55, 7), (55, 8), (55, 9), (55, 10), (29, 2), (29, 3), (29, 4), (29, 5), (29, 6), (29, 7)]) (ty := .int) (t := 9) C hw (by decide) rfl (nOk.of (N := ([] : List (Nat × Nat))) (by decide +kernel) (by decide)) wA_9 rfl rfl (Or.inr (Or.inl ⟨rfl, rfl⟩)) (by decide) (by decide) (by decide) (Nat.le_of_ble_eq_true rfl) (Nat.le_of_ble_eq_true rfl) dX2_init_43 (fun ad4 H hE hw => ?_)
  have hE0 : ∀ x, x < 56 ∨ 1000000 ≤ x → ad4 x = ad x := fun x hx => (hE x (by omega)).trans (hE0 x hx)
  rw [show ad3 55 = ad4 55 from (hE 55 (by decide)).symm] at hl
  rw [show ad3 55 = ad4 55 from (hE 55 (by decide)).symm]
  have hw : aW D dA ad4 adV (aGs 60 [(55, 6), (55, 7), (55, 8), (55, 9), (55, 10), (29, 2), (29, 3), (29, 4), (29, 5), (29, 6), (29, 7)] (zR (zR (zR (zR (pI (pI (pI ι 55 0 (0 : Int32)) 55 1 (1 : Int32)) 55 2 (0 : Int32)) 56) 57) 58) 59)) A s H locs := hw
  refine n_putF (U' := [(55, 7), (55, 8), (55, 9), (55, 10), (29, 2), (29, 3), (29, 4), (29, 5), (29, 6), (29, 7)]) (ty := .array .int) (o := 55) (q := 59) (T := TX2) (N := 11) (ty0 := tyX2) C hin wU_X2 tyX2_ok nmX2 hw (by decide) rfl (by decide) rfl 6 (by decide) rfl wF_X2_31 rfl rfl (by decide +kernel) rfl rfl rfl (uDel_1 (U := [(55, 6), (55, 7), (55, 8), (55, 9), (55, 10), (29, 2), (29, 3), (29, 4), (29, 5), (29, 6), (29, 7)])) (uDel_2 (U := [(55, 6), (55, 7), (55, 8), (55, 9), (55, 10), (29, 2), (29, 3), (29, 4), (29, 5), (29, 6), (29, 7)])) dX2_init_45 (fun H locs hw => ?_)
  have hw : aW D dA ad4 adV (aGs 60 [(55, 7), (55, 8), (55, 9), (55, 10), (29, 2), (29, 3), (29, 4), (29, 5), (29, 6), (29, 7)] (zR (zR (zR (zR (pI (pI (pI ι 55 0 (0 : Int32)) 55 1 (1 : Int32)) 55 2 (0 : Int32)) 56) 57) 58) 59)) A s H locs := hw
  refine lv_aload_n hx hb dX2_init_48 rfl (lv_at hl 0 rfl) ?_
  refine lv_bipush (v := (8 : Int32)) hx hb dX2_init_49 (by decide) ?_
  refine n_newa (U' := [(55, 7), (55, 8), (55, 9), (55, 10), (29, 2), (29, 3), (29, 4), (29, 5), (29, 6), (29, 7)]) (ty := .int) (t := 9) C hw (by decide) rfl (nOk.of (N := ([] : List (Nat × Nat))) (by decide +kernel) (by decide)) wA_9 rfl rfl (Or.inr (Or.inl ⟨rfl, rfl⟩)) (by decide) (by decide) (by decide) (Nat.le_of_ble_eq_true rfl) (Nat.le_of_ble_eq_true rfl) dX2_init_51 (fun ad5 H hE hw => ?_)
  have hE0 : ∀ x, x < 56 ∨ 1000000 ≤ x → ad5 x = ad x := fun x hx => (hE x (by omega)).trans (hE0 x hx)
  rw [show ad4 55 = ad5 55 from (hE 55 (by decide)).symm] at hl
  rw [show ad4 55 = ad5 55 from (hE 55 (by decide)).symm]
  have hw : aW D dA ad5 adV (aGs 61 [(55, 7), (55, 8), (55, 9), (55, 10), (29, 2), (29, 3), (29, 4), (29, 5), (29, 6), (29, 7)] (zR (zR (zR (zR (zR (pI (pI (pI ι 55 0 (0 : Int32)) 55 1 (1 : Int32)) 55 2 (0 : Int32)) 56) 57) 58) 59) 60)) A s H locs := hw
  refine n_putF (U' := [(55, 8), (55, 9), (55, 10), (29, 2), (29, 3), (29, 4), (29, 5), (29, 6), (29, 7)]) (ty := .array .int) (o := 55) (q := 60) (T := TX2) (N := 11) (ty0 := tyX2) C hin wU_X2 tyX2_ok nmX2 hw (by decide) rfl (by decide) rfl 7 (by decide) rfl wF_X2_34 rfl rfl (by decide +kernel) rfl rfl rfl (uDel_1 (U := [(55, 7), (55, 8), (55, 9), (55, 10), (29, 2), (29, 3), (29, 4), (29, 5), (29, 6), (29, 7)])) (uDel_2 (U := [(55, 7), (55, 8), (55, 9), (55, 10), (29, 2), (29, 3), (29, 4), (29, 5), (29, 6), (29, 7)])) dX2_init_53 (fun H locs hw => ?_)
  have hw : aW D dA ad5 adV (aGs 61 [(55, 8), (55, 9), (55, 10), (29, 2), (29, 3), (29, 4), (29, 5), (29, 6), (29, 7)] (zR (zR (zR (zR (zR (pI (pI (pI ι 55 0 (0 : Int32)) 55 1 (1 : Int32)) 55 2 (0 : Int32)) 56) 57) 58) 59) 60)) A s H locs := hw
  refine lv_aload_n hx hb dX2_init_56 rfl (lv_at hl 0 rfl) ?_
  refine lv_bipush (v := (16 : Int32)) hx hb dX2_init_57 (by decide) ?_
  refine n_newa (U' := [(55, 8), (55, 9), (55, 10), (29, 2), (29, 3), (29, 4), (29, 5), (29, 6), (29, 7)]) (ty := .int) (t := 9) C hw (by decide) rfl (nOk.of (N := ([] : List (Nat × Nat))) (by decide +kernel) (by decide)) wA_9 rfl rfl (Or.inr (Or.inl ⟨rfl, rfl⟩)) (by decide) (by decide) (by decide) (Nat.le_of_ble_eq_true rfl) (Nat.le_of_ble_eq_true rfl) dX2_init_59 (fun ad6 H hE hw => ?_)
  have hE0 : ∀ x, x < 56 ∨ 1000000 ≤ x → ad6 x = ad x := fun x hx => (hE x (by omega)).trans (hE0 x hx)
  rw [show ad5 55 = ad6 55 from (hE 55 (by decide)).symm] at hl
  rw [show ad5 55 = ad6 55 from (hE 55 (by decide)).symm]
  have hw : aW D dA ad6 adV (aGs 62 [(55, 8), (55, 9), (55, 10), (29, 2), (29, 3), (29, 4), (29, 5), (29, 6), (29, 7)] (zR (zR (zR (zR (zR (zR (pI (pI (pI ι 55 0 (0 : Int32)) 55 1 (1 : Int32)) 55 2 (0 : Int32)) 56) 57) 58) 59) 60) 61)) A s H locs := hw
  refine n_putF (U' := [(55, 9), (55, 10), (29, 2), (29, 3), (29, 4), (29, 5), (29, 6), (29, 7)]) (ty := .array .int) (o := 55) (q := 61) (T := TX2) (N := 11) (ty0 := tyX2) C hin wU_X2 tyX2_ok nmX2 hw (by decide) rfl (by decide) rfl 8 (by decide) rfl wF_X2_37 rfl rfl (by decide +kernel) rfl rfl rfl (uDel_1 (U := [(55, 8), (55, 9), (55, 10), (29, 2), (29, 3), (29, 4), (29, 5), (29, 6), (29, 7)])) (uDel_2 (U := [(55, 8), (55, 9), (55, 10), (29, 2), (29, 3), (29, 4), (29, 5), (29, 6), (29, 7)])) dX2_init_61 (fun H locs hw => ?_)
  have hw : aW D dA ad6 adV (aGs 62 [(55, 9), (55, 10), (29, 2), (29, 3), (29, 4), (29, 5), (29, 6), (29, 7)] (zR (zR (zR (zR (zR (zR (pI (pI (pI ι 55 0 (0 : Int32)) 55 1 (1 : Int32)) 55 2 (0 : Int32)) 56) 57) 58) 59) 60) 61)) A s H locs := hw
  refine lv_aload_n hx hb dX2_init_64 rfl (lv_at hl 0 rfl) ?_
  refine lv_bipush (v := (16 : Int32)) hx hb dX2_init_65 (by decide) ?_
  refine n_newa (U' := [(55, 9), (55, 10), (29, 2), (29, 3), (29, 4), (29, 5), (29, 6), (29, 7)]) (ty := .int) (t := 9) C hw (by decide) rfl (nOk.of (N := ([] : List (Nat × Nat))) (by decide +kernel) (by decide)) wA_9 rfl rfl (Or.inr (Or.inl ⟨rfl, rfl⟩)) (by decide) (by decide) (by decide) (Nat.le_of_ble_eq_true rfl) (Nat.le_of_ble_eq_true rfl) dX2_init_67 (fun ad7 H hE hw => ?_)
  have hE0 : ∀ x, x < 56 ∨ 1000000 ≤ x → ad7 x = ad x := fun x hx => (hE x (by omega)).trans (hE0 x hx)
  rw [show ad6 55 = ad7 55 from (hE 55 (by decide)).symm] at hl
  rw [show ad6 55 = ad7 55 from (hE 55 (by decide)).symm]
  have hw : aW D dA ad7 adV (aGs 63 [(55, 9), (55, 10), (29, 2), (29, 3), (29, 4), (29, 5), (29, 6), (29, 7)] (zR (zR (zR (zR (zR (zR (zR (pI (pI (pI ι 55 0 (0 : Int32)) 55 1 (1 : Int32)) 55 2 (0 : Int32)) 56) 57) 58) 59) 60) 61) 62)) A s H locs := hw
  refine n_putF (U' := [(55, 10), (29, 2), (29, 3), (29, 4), (29, 5), (29, 6), (29, 7)]) (ty := .array .int) (o := 55) (q := 62) (T := TX2) (N := 11) (ty0 := tyX2) C hin wU_X2 tyX2_ok nmX2 hw (by decide) rfl (by decide) rfl 9 (by decide) rfl wF_X2_40 rfl rfl (by decide +kernel) rfl rfl rfl (uDel_1 (U := [(55, 9), (55, 10), (29, 2), (29, 3), (29, 4), (29, 5), (29, 6), (29, 7)])) (uDel_2 (U := [(55, 9), (55, 10), (29, 2), (29, 3), (29, 4), (29, 5), (29, 6), (29, 7)])) dX2_init_69 (fun H locs hw => ?_)
  have hw : aW D dA ad7 adV (aGs 63 [(55, 10), (29, 2), (29, 3), (29, 4), (29, 5), (29, 6), (29, 7)] (zR (zR (zR (zR (zR (zR (zR (pI (pI (pI ι 55 0 (0 : Int32)) 55 1 (1 : Int32)) 55 2 (0 : Int32)) 56) 57) 58) 59) 60) 61) 62)) A s H locs := hw
  refine lv_aload_n hx hb dX2_init_72 rfl (lv_at hl 0 rfl) ?_
  refine lv_bipush (v := (16 : Int32)) hx hb dX2_init_73 (by decide) ?_
  refine n_newa (U' := [(55, 10), (29, 2), (29, 3), (29, 4), (29, 5), (29, 6), (29, 7)]) (ty := .int) (t := 9) C hw (by decide) rfl (nOk.of (N := ([] : List (Nat × Nat))) (by decide +kernel) (by decide)) wA_9 rfl rfl (Or.inr (Or.inl ⟨rfl, rfl⟩)) (by decide) (by decide) (by decide) (Nat.le_of_ble_eq_true rfl) (Nat.le_of_ble_eq_true rfl) dX2_init_75 (fun ad8 H hE hw => ?_)
  have hE0 : ∀ x, x < 56 ∨ 1000000 ≤ x → ad8 x = ad x := fun x hx => (hE x (by omega)).trans (hE0 x hx)
  rw [show ad7 55 = ad8 55 from (hE 55 (by decide)).symm] at hl
  rw [show ad7 55 = ad8 55 from (hE 55 (by decide)).symm]
  have hw : aW D dA ad8 adV (aGs 64 [(55, 10), (29, 2), (29, 3), (29, 4), (29, 5), (29, 6), (29, 7)] (zR (zR (zR (zR (zR (zR (zR (zR (pI (pI (pI ι 55 0 (0 : Int32)) 55 1 (1 : Int32)) 55 2 (0 : Int32)) 56) 57) 58) 59) 60) 61) 62) 63)) A s H locs := hw
  refine n_putF (U' := [(29, 2), (29, 3), (29, 4), (29, 5), (29, 6), (29, 7)]) (ty := .array .int) (o := 55) (q := 63) (T := TX2) (N := 11) (ty0 := tyX2) C hin wU_X2 tyX2_ok nmX2 hw (by decide) rfl (by decide) rfl 10 (by decide) rfl wF_X2_43 rfl rfl (by decide +kernel) rfl rfl rfl (uDel_1 (U := [(55, 10), (29, 2), (29, 3), (29, 4), (29, 5), (29, 6), (29, 7)])) (uDel_2 (U := [(55, 10), (29, 2), (29, 3), (29, 4), (29, 5), (29, 6), (29, 7)])) dX2_init_77 (fun H locs hw => ?_)
  have hw : aW D dA ad8 adV (aGs 64 [(29, 2), (29, 3), (29, 4), (29, 5), (29, 6), (29, 7)] (zR (zR (zR (zR (zR (zR (zR (zR (pI (pI (pI ι 55 0 (0 : Int32)) 55 1 (1 : Int32)) 55 2 (0 : Int32)) 56) 57) 58) 59) 60) 61) 62) 63)) A s H locs := hw
  refine lv_aload_n hx hb dX2_init_80 rfl (lv_at hl 0 rfl) ?_
  obtain ⟨r81, hr81, hM⟩ := h_b hM
  refine a_callV (σ' := aGs 64 [(29, 2), (29, 3), (29, 4), (29, 5), (29, 6), (29, 7)] r81) (v := none) (o := 55) (As := fun ad => []) (rest := []) C hw (cs_X2_clear l (n9 := 64) (U9 := [(29, 2), (29, 3), (29, 4), (29, 5), (29, 6), (29, 7)]) ⟨lin55, by decide, noU (by decide)⟩ hr81) k_X2_clear wM_X2_46 ⟨⟨rfl, rfl⟩, Nat.le_of_ble_eq_true rfl, Nat.le_of_ble_eq_true rfl⟩ rfl (by decide) rfl rfl rfl hl rfl (by decide) dX2_init_81 ⟨Nat.le_of_ble_eq_true rfl, Nat.le_of_ble_eq_true rfl⟩ (fun H locs hw => ?_)
  cases h_e hM
  exact n_ret C hE0 hw dX2_init_84
set_option maxHeartbeats 400000 in
set_option maxRecDepth 100000 in
theorem ci_X2_init_64 (l : Launch) {ι res : iS} (hM : mi_X2 64 ι = some res) : aMn l yX2_init cX2_init 1 rm_X2_init (fun ad => [.ref (ad 64)]) 65 (aGs 65 [(64, 3), (64, 4), (64, 5), (64, 6), (64, 7), (64, 8), (64, 9), (64, 10), (29, 3), (29, 4), (29, 5), (29, 6), (29, 7)] ι) (aGs 73 [(29, 3), (29, 4), (29, 5), (29, 6), (29, 7)] res) 8 150 := by
  refine aMn.of (by decide) rfl (fun _ => Nat.le_of_ble_eq_true rfl) ?_
  intro p e s m args below meth c D dA ad adV A ls C hin hY hw hl
  have C : aX p m c cX2_init 1 s args aTs RX2 meth none := C
  have hx := C.1.1
  have hb := C.1.2.1
  have hown := C.1.2.2.2.1
  have hts := C.1.2.2.2.2
  have hl : lv_has ls 1 [(0, .ref (ad 64))] := hl
  replace hM : (Option.bind (m_X2_clear 64 (zR (zR (zR (zR (zR (zR (zR (zR (pI (pI (pI ι 64 0 (0 : Int32)) 64 1 (1 : Int32)) 64 2 (0 : Int32)) 65) 66) 67) 68) 69) 70) 71) 72)) fun r81 => some r81) = some res := hM
  refine lv_aload_n hx hb dX2_init_0 rfl (lv_at hl 0 rfl) ?_
  refine n_obj C wM_X2_3 hl dX2_init_1 (Nat.le_of_ble_eq_true rfl) (Nat.le_of_ble_eq_true rfl) ?_
  refine lv_aload_n hx hb dX2_init_4 rfl (lv_at hl 0 rfl) ?_
  refine lv_iconst (v := (0 : Int32)) hx hb dX2_init_5 (by decide) ?_
  refine a_puti (ty := .int) (σ := aGs 65 [(64, 3), (64, 4), (64, 5), (64, 6), (64, 7), (64, 8), (64, 9), (64, 10), (29, 3), (29, 4), (29, 5), (29, 6), (29, 7)] ι) (o := 64) (T := TX2) (N := 11) (ty0 := tyX2) C wU_X2 tyX2_ok nmX2 hw rfl (by decide) rfl 0 (by decide) rfl wF_X2_9 rfl (by decide +kernel) rfl rfl dX2_init_6 (fun H locs hw => ?_)
  have hw : aW D dA ad adV (aGs 65 [(64, 3), (64, 4), (64, 5), (64, 6), (64, 7), (64, 8), (64, 9), (64, 10), (29, 3), (29, 4), (29, 5), (29, 6), (29, 7)] (pI ι 64 0 (0 : Int32))) A s H locs := by rw [aGs_PI] at hw; exact hw
  refine lv_aload_n hx hb dX2_init_9 rfl (lv_at hl 0 rfl) ?_
  refine lv_iconst (v := (1 : Int32)) hx hb dX2_init_10 (by decide) ?_
  refine a_puti (ty := .int) (σ := aGs 65 [(64, 3), (64, 4), (64, 5), (64, 6), (64, 7), (64, 8), (64, 9), (64, 10), (29, 3), (29, 4), (29, 5), (29, 6), (29, 7)] (pI ι 64 0 (0 : Int32))) (o := 64) (T := TX2) (N := 11) (ty0 := tyX2) C wU_X2 tyX2_ok nmX2 hw rfl (by decide) rfl 1 (by decide) rfl wF_X2_15 rfl (by decide +kernel) rfl rfl dX2_init_11 (fun H locs hw => ?_)
  have hw : aW D dA ad adV (aGs 65 [(64, 3), (64, 4), (64, 5), (64, 6), (64, 7), (64, 8), (64, 9), (64, 10), (29, 3), (29, 4), (29, 5), (29, 6), (29, 7)] (pI (pI ι 64 0 (0 : Int32)) 64 1 (1 : Int32))) A s H locs := by rw [aGs_PI] at hw; exact hw
  refine lv_aload_n hx hb dX2_init_14 rfl (lv_at hl 0 rfl) ?_
  refine lv_iconst (v := (0 : Int32)) hx hb dX2_init_15 (by decide) ?_
  refine a_puti (ty := .int) (σ := aGs 65 [(64, 3), (64, 4), (64, 5), (64, 6), (64, 7), (64, 8), (64, 9), (64, 10), (29, 3), (29, 4), (29, 5), (29, 6), (29, 7)] (pI (pI ι 64 0 (0 : Int32)) 64 1 (1 : Int32))) (o := 64) (T := TX2) (N := 11) (ty0 := tyX2) C wU_X2 tyX2_ok nmX2 hw rfl (by decide) rfl 2 (by decide) rfl wF_X2_18 rfl (by decide +kernel) rfl rfl dX2_init_16 (fun H locs hw => ?_)
  have hw : aW D dA ad adV (aGs 65 [(64, 3), (64, 4), (64, 5), (64, 6), (64, 7), (64, 8), (64, 9), (64, 10), (29, 3), (29, 4), (29, 5), (29, 6), (29, 7)] (pI (pI (pI ι 64 0 (0 : Int32)) 64 1 (1 : Int32)) 64 2 (0 : Int32))) A s H locs := by rw [aGs_PI] at hw; exact hw
  refine lv_aload_n hx hb dX2_init_19 rfl (lv_at hl 0 rfl) ?_
  refine lv_bipush (v := (80 : Int32)) hx hb dX2_init_20 (by decide) ?_
  refine n_newa (U' := [(64, 3), (64, 4), (64, 5), (64, 6), (64, 7), (64, 8), (64, 9), (64, 10), (29, 3), (29, 4), (29, 5), (29, 6), (29, 7)]) (ty := .int) (t := 9) C hw (by decide) rfl (nOk.of (N := ([] : List (Nat × Nat))) (by decide +kernel) (by decide)) wA_9 rfl rfl (Or.inr (Or.inl ⟨rfl, rfl⟩)) (by decide) (by decide) (by decide) (Nat.le_of_ble_eq_true rfl) (Nat.le_of_ble_eq_true rfl) dX2_init_22 (fun ad1 H hE hw => ?_)
  have hE0 : ∀ x, x < 65 ∨ 1000000 ≤ x → ad1 x = ad x := fun x hx => (hE x (by omega)).trans (rfl)
  rw [show ad 64 = ad1 64 from (hE 64 (by decide)).symm] at hl
  rw [show ad 64 = ad1 64 from (hE 64 (by decide)).symm]
  have hw : aW D dA ad1 adV (aGs 66 [(64, 3), (64, 4), (64, 5), (64, 6), (64, 7), (64, 8), (64, 9), (64, 10), (29, 3), (29, 4), (29, 5), (29, 6), (29, 7)] (zR (pI (pI (pI ι 64 0 (0 : Int32)) 64 1 (1 : Int32)) 64 2 (0 : Int32)) 65)) A s H locs := hw
  refine n_putF (U' := [(64, 4), (64, 5), (64, 6), (64, 7), (64, 8), (64, 9), (64, 10), (29, 3), (29, 4), (29, 5), (29, 6), (29, 7)]) (ty := .array .int) (o := 64) (q := 65) (T := TX2) (N := 11) (ty0 := tyX2) C hin wU_X2 tyX2_ok nmX2 hw (by decide) rfl (by decide) rfl 3 (by decide) rfl wF_X2_21 rfl rfl (by decide +kernel) rfl rfl rfl (uDel_1 (U := [(64, 3), (64, 4), (64, 5), (64, 6), (64, 7), (64, 8), (64, 9), (64, 10), (29, 3), (29, 4), (29, 5), (29, 6), (29, 7)])) (uDel_2 (U := [(64, 3), (64, 4), (64, 5), (64, 6), (64, 7), (64, 8), (64, 9), (64, 10), (29, 3), (29, 4), (29, 5), (29, 6), (29, 7)])) dX2_init_24 (fun H locs hw => ?_)
  have hw : aW D dA ad1 adV (aGs 66 [(64, 4), (64, 5), (64, 6), (64, 7), (64, 8), (64, 9), (64, 10), (29, 3), (29, 4), (29, 5), (29, 6), (29, 7)] (zR (pI (pI (pI ι 64 0 (0 : Int32)) 64 1 (1 : Int32)) 64 2 (0 : Int32)) 65)) A s H locs := hw
  refine lv_aload_n hx hb dX2_init_27 rfl (lv_at hl 0 rfl) ?_
  refine lv_iconst (v := (5 : Int32)) hx hb dX2_init_28 (by decide) ?_
  refine n_newa (U' := [(64, 4), (64, 5), (64, 6), (64, 7), (64, 8), (64, 9), (64, 10), (29, 3), (29, 4), (29, 5), (29, 6), (29, 7)]) (ty := .int) (t := 9) C hw (by decide) rfl (nOk.of (N := ([] : List (Nat × Nat))) (by decide +kernel) (by decide)) wA_9 rfl rfl (Or.inr (Or.inl ⟨rfl, rfl⟩)) (by decide) (by decide) (by decide) (Nat.le_of_ble_eq_true rfl) (Nat.le_of_ble_eq_true rfl) dX2_init_29 (fun ad2 H hE hw => ?_)
  have hE0 : ∀ x, x < 65 ∨ 1000000 ≤ x → ad2 x = ad x := fun x hx => (hE x (by omega)).trans (hE0 x hx)
  rw [show ad1 64 = ad2 64 from (hE 64 (by decide)).symm] at hl
  rw [show ad1 64 = ad2 64 from (hE 64 (by decide)).symm]
  have hw : aW D dA ad2 adV (aGs 67 [(64, 4), (64, 5), (64, 6), (64, 7), (64, 8), (64, 9), (64, 10), (29, 3), (29, 4), (29, 5), (29, 6), (29, 7)] (zR (zR (pI (pI (pI ι 64 0 (0 : Int32)) 64 1 (1 : Int32)) 64 2 (0 : Int32)) 65) 66)) A s H locs := hw
  refine n_putF (U' := [(64, 5), (64, 6), (64, 7), (64, 8), (64, 9), (64, 10), (29, 3), (29, 4), (29, 5), (29, 6), (29, 7)]) (ty := .array .int) (o := 64) (q := 66) (T := TX2) (N := 11) (ty0 := tyX2) C hin wU_X2 tyX2_ok nmX2 hw (by decide) rfl (by decide) rfl 4 (by decide) rfl wF_X2_25 rfl rfl (by decide +kernel) rfl rfl rfl (uDel_1 (U := [(64, 4), (64, 5), (64, 6), (64, 7), (64, 8), (64, 9), (64, 10), (29, 3), (29, 4), (29, 5), (29, 6), (29, 7)])) (uDel_2 (U := [(64, 4), (64, 5), (64, 6), (64, 7), (64, 8), (64, 9), (64, 10), (29, 3), (29, 4), (29, 5), (29, 6), (29, 7)])) dX2_init_31 (fun H locs hw => ?_)
  have hw : aW D dA ad2 adV (aGs 67 [(64, 5), (64, 6), (64, 7), (64, 8), (64, 9), (64, 10), (29, 3), (29, 4), (29, 5), (29, 6), (29, 7)] (zR (zR (pI (pI (pI ι 64 0 (0 : Int32)) 64 1 (1 : Int32)) 64 2 (0 : Int32)) 65) 66)) A s H locs := hw
  refine lv_aload_n hx hb dX2_init_34 rfl (lv_at hl 0 rfl) ?_
  refine lv_iconst (v := (5 : Int32)) hx hb dX2_init_35 (by decide) ?_
  refine n_newa (U' := [(64, 5), (64, 6), (64, 7), (64, 8), (64, 9), (64, 10), (29, 3), (29, 4), (29, 5), (29, 6), (29, 7)]) (ty := .int) (t := 9) C hw (by decide) rfl (nOk.of (N := ([] : List (Nat × Nat))) (by decide +kernel) (by decide)) wA_9 rfl rfl (Or.inr (Or.inl ⟨rfl, rfl⟩)) (by decide) (by decide) (by decide) (Nat.le_of_ble_eq_true rfl) (Nat.le_of_ble_eq_true rfl) dX2_init_36 (fun ad3 H hE hw => ?_)
  have hE0 : ∀ x, x < 65 ∨ 1000000 ≤ x → ad3 x = ad x := fun x hx => (hE x (by omega)).trans (hE0 x hx)
  rw [show ad2 64 = ad3 64 from (hE 64 (by decide)).symm] at hl
  rw [show ad2 64 = ad3 64 from (hE 64 (by decide)).symm]
  have hw : aW D dA ad3 adV (aGs 68 [(64, 5), (64, 6), (64, 7), (64, 8), (64, 9), (64, 10), (29, 3), (29, 4), (29, 5), (29, 6), (29, 7)] (zR (zR (zR (pI (pI (pI ι 64 0 (0 : Int32)) 64 1 (1 : Int32)) 64 2 (0 : Int32)) 65) 66) 67)) A s H locs := hw
  refine n_putF (U' := [(64, 6), (64, 7), (64, 8), (64, 9), (64, 10), (29, 3), (29, 4), (29, 5), (29, 6), (29, 7)]) (ty := .array .int) (o := 64) (q := 67) (T := TX2) (N := 11) (ty0 := tyX2) C hin wU_X2 tyX2_ok nmX2 hw (by decide) rfl (by decide) rfl 5 (by decide) rfl wF_X2_28 rfl rfl (by decide +kernel) rfl rfl rfl (uDel_1 (U := [(64, 5), (64, 6), (64, 7), (64, 8), (64, 9), (64, 10), (29, 3), (29, 4), (29, 5), (29, 6), (29, 7)])) (uDel_2 (U := [(64, 5), (64, 6), (64, 7), (64, 8), (64, 9), (64, 10), (29, 3), (29, 4), (29, 5), (29, 6), (29, 7)])) dX2_init_38 (fun H locs hw => ?_)
  have hw : aW D dA ad3 adV (aGs 68 [(64, 6), (64, 7), (64, 8), (64, 9), (64, 10), (29, 3), (29, 4), (29, 5), (29, 6), (29, 7)] (zR (zR (zR (pI (pI (pI ι 64 0 (0 : Int32)) 64 1 (1 : Int32)) 64 2 (0 : Int32)) 65) 66) 67)) A s H locs := hw
  refine lv_aload_n hx hb dX2_init_41 rfl (lv_at hl 0 rfl) ?_
  refine lv_iconst (v := (4 : Int32)) hx hb dX2_init_42 (by decide) ?_
  refine n_newa (U' := [(64, 6), (64, 7), (64, 8), (64, 9), (64, 10), (29, 3), (29, 4), (29, 5), (29, 6), (29, 7)]) (ty := .int) (t := 9) C hw (by decide) rfl (nOk.of (N := ([] : List (Nat × Nat))) (by decide +kernel) (by decide)) wA_9 rfl rfl (Or.inr (Or.inl ⟨rfl, rfl⟩)) (by decide) (by decide) (by decide) (Nat.le_of_ble_eq_true rfl) (Nat.le_of_ble_eq_true rfl) dX2_init_43 (fun ad4 H hE hw => ?_)
  have hE0 : ∀ x, x < 65 ∨ 1000000 ≤ x → ad4 x = ad x := fun x hx => (hE x (by omega)).trans (hE0 x hx)
  rw [show ad3 64 = ad4 64 from (hE 64 (by decide)).symm] at hl
  rw [show ad3 64 = ad4 64 from (hE 64 (by decide)).symm]
  have hw : aW D dA ad4 adV (aGs 69 [(64, 6), (64, 7), (64, 8), (64, 9), (64, 10), (29, 3), (29, 4), (29, 5), (29, 6), (29, 7)] (zR (zR (zR (zR (pI (pI (pI ι 64 0 (0 : Int32)) 64 1 (1 : Int32)) 64 2 (0 : Int32)) 65) 66) 67) 68)) A s H locs := hw
  refine n_putF (U' := [(64, 7), (64, 8), (64, 9), (64, 10), (29, 3), (29, 4), (29, 5), (29, 6), (29, 7)]) (ty := .array .int) (o := 64) (q := 68) (T := TX2) (N := 11) (ty0 := tyX2) C hin wU_X2 tyX2_ok nmX2 hw (by decide) rfl (by decide) rfl 6 (by decide) rfl wF_X2_31 rfl rfl (by decide +kernel) rfl rfl rfl (uDel_1 (U := [(64, 6), (64, 7), (64, 8), (64, 9), (64, 10), (29, 3), (29, 4), (29, 5), (29, 6), (29, 7)])) (uDel_2 (U := [(64, 6), (64, 7), (64, 8), (64, 9), (64, 10), (29, 3), (29, 4), (29, 5), (29, 6), (29, 7)])) dX2_init_45 (fun H locs hw => ?_)
  have hw : aW D dA ad4 adV (aGs 69 [(64, 7), (64, 8), (64, 9), (64, 10), (29, 3), (29, 4), (29, 5), (29, 6), (29, 7)] (zR (zR (zR (zR (pI (pI (pI ι 64 0 (0 : Int32)) 64 1 (1 : Int32)) 64 2 (0 : Int32)) 65) 66) 67) 68)) A s H locs := hw
  refine lv_aload_n hx hb dX2_init_48 rfl (lv_at hl 0 rfl) ?_
  refine lv_bipush (v := (8 : Int32)) hx hb dX2_init_49 (by decide) ?_
  refine n_newa (U' := [(64, 7), (64, 8), (64, 9), (64, 10), (29, 3), (29, 4), (29, 5), (29, 6), (29, 7)]) (ty := .int) (t := 9) C hw (by decide) rfl (nOk.of (N := ([] : List (Nat × Nat))) (by decide +kernel) (by decide)) wA_9 rfl rfl (Or.inr (Or.inl ⟨rfl, rfl⟩)) (by decide) (by decide) (by decide) (Nat.le_of_ble_eq_true rfl) (Nat.le_of_ble_eq_true rfl) dX2_init_51 (fun ad5 H hE hw => ?_)
  have hE0 : ∀ x, x < 65 ∨ 1000000 ≤ x → ad5 x = ad x := fun x hx => (hE x (by omega)).trans (hE0 x hx)
  rw [show ad4 64 = ad5 64 from (hE 64 (by decide)).symm] at hl
  rw [show ad4 64 = ad5 64 from (hE 64 (by decide)).symm]
  have hw : aW D dA ad5 adV (aGs 70 [(64, 7), (64, 8), (64, 9), (64, 10), (29, 3), (29, 4), (29, 5), (29, 6), (29, 7)] (zR (zR (zR (zR (zR (pI (pI (pI ι 64 0 (0 : Int32)) 64 1 (1 : Int32)) 64 2 (0 : Int32)) 65) 66) 67) 68) 69)) A s H locs := hw
  refine n_putF (U' := [(64, 8), (64, 9), (64, 10), (29, 3), (29, 4), (29, 5), (29, 6), (29, 7)]) (ty := .array .int) (o := 64) (q := 69) (T := TX2) (N := 11) (ty0 := tyX2) C hin wU_X2 tyX2_ok nmX2 hw (by decide) rfl (by decide) rfl 7 (by decide) rfl wF_X2_34 rfl rfl (by decide +kernel) rfl rfl rfl (uDel_1 (U := [(64, 7), (64, 8), (64, 9), (64, 10), (29, 3), (29, 4), (29, 5), (29, 6), (29, 7)])) (uDel_2 (U := [(64, 7), (64, 8), (64, 9), (64, 10), (29, 3), (29, 4), (29, 5), (29, 6), (29, 7)])) dX2_init_53 (fun H locs hw => ?_)
  have hw : aW D dA ad5 adV (aGs 70 [(64, 8), (64, 9), (64, 10), (29, 3), (29, 4), (29, 5), (29, 6), (29, 7)] (zR (zR (zR (zR (zR (pI (pI (pI ι 64 0 (0 : Int32)) 64 1 (1 : Int32)) 64 2 (0 : Int32)) 65) 66) 67) 68) 69)) A s H locs := hw
  refine lv_aload_n hx hb dX2_init_56 rfl (lv_at hl 0 rfl) ?_
  refine lv_bipush (v := (16 : Int32)) hx hb dX2_init_57 (by decide) ?_
  refine n_newa (U' := [(64, 8), (64, 9), (64, 10), (29, 3), (29, 4), (29, 5), (29, 6), (29, 7)]) (ty := .int) (t := 9) C hw (by decide) rfl (nOk.of (N := ([] : List (Nat × Nat))) (by decide +kernel) (by decide)) wA_9 rfl rfl (Or.inr (Or.inl ⟨rfl, rfl⟩)) (by decide) (by decide) (by decide) (Nat.le_of_ble_eq_true rfl) (Nat.le_of_ble_eq_true rfl) dX2_init_59 (fun ad6 H hE hw => ?_)
  have hE0 : ∀ x, x < 65 ∨ 1000000 ≤ x → ad6 x = ad x := fun x hx => (hE x (by omega)).trans (hE0 x hx)
  rw [show ad5 64 = ad6 64 from (hE 64 (by decide)).symm] at hl
  rw [show ad5 64 = ad6 64 from (hE 64 (by decide)).symm]
  have hw : aW D dA ad6 adV (aGs 71 [(64, 8), (64, 9), (64, 10), (29, 3), (29, 4), (29, 5), (29, 6), (29, 7)] (zR (zR (zR (zR (zR (zR (pI (pI (pI ι 64 0 (0 : Int32)) 64 1 (1 : Int32)) 64 2 (0 : Int32)) 65) 66) 67) 68) 69) 70)) A s H locs := hw
  refine n_putF (U' := [(64, 9), (64, 10), (29, 3), (29, 4), (29, 5), (29, 6), (29, 7)]) (ty := .array .int) (o := 64) (q := 70) (T := TX2) (N := 11) (ty0 := tyX2) C hin wU_X2 tyX2_ok nmX2 hw (by decide) rfl (by decide) rfl 8 (by decide) rfl wF_X2_37 rfl rfl (by decide +kernel) rfl rfl rfl (uDel_1 (U := [(64, 8), (64, 9), (64, 10), (29, 3), (29, 4), (29, 5), (29, 6), (29, 7)])) (uDel_2 (U := [(64, 8), (64, 9), (64, 10), (29, 3), (29, 4), (29, 5), (29, 6), (29, 7)])) dX2_init_61 (fun H locs hw => ?_)
  have hw : aW D dA ad6 adV (aGs 71 [(64, 9), (64, 10), (29, 3), (29, 4), (29, 5), (29, 6), (29, 7)] (zR (zR (zR (zR (zR (zR (pI (pI (pI ι 64 0 (0 : Int32)) 64 1 (1 : Int32)) 64 2 (0 : Int32)) 65) 66) 67) 68) 69) 70)) A s H locs := hw
  refine lv_aload_n hx hb dX2_init_64 rfl (lv_at hl 0 rfl) ?_
  refine lv_bipush (v := (16 : Int32)) hx hb dX2_init_65 (by decide) ?_
  refine n_newa (U' := [(64, 9), (64, 10), (29, 3), (29, 4), (29, 5), (29, 6), (29, 7)]) (ty := .int) (t := 9) C hw (by decide) rfl (nOk.of (N := ([] : List (Nat × Nat))) (by decide +kernel) (by decide)) wA_9 rfl rfl (Or.inr (Or.inl ⟨rfl, rfl⟩)) (by decide) (by decide) (by decide) (Nat.le_of_ble_eq_true rfl) (Nat.le_of_ble_eq_true rfl) dX2_init_67 (fun ad7 H hE hw => ?_)
  have hE0 : ∀ x, x < 65 ∨ 1000000 ≤ x → ad7 x = ad x := fun x hx => (hE x (by omega)).trans (hE0 x hx)
  rw [show ad6 64 = ad7 64 from (hE 64 (by decide)).symm] at hl
  rw [show ad6 64 = ad7 64 from (hE 64 (by decide)).symm]
  have hw : aW D dA ad7 adV (aGs 72 [(64, 9), (64, 10), (29, 3), (29, 4), (29, 5), (29, 6), (29, 7)] (zR (zR (zR (zR (zR (zR (zR (pI (pI (pI ι 64 0 (0 : Int32)) 64 1 (1 : Int32)) 64 2 (0 : Int32)) 65) 66) 67) 68) 69) 70) 71)) A s H locs := hw
  refine n_putF (U' := [(64, 10), (29, 3), (29, 4), (29, 5), (29, 6), (29, 7)]) (ty := .array .int) (o := 64) (q := 71) (T := TX2) (N := 11) (ty0 := tyX2) C hin wU_X2 tyX2_ok nmX2 hw (by decide) rfl (by decide) rfl 9 (by decide) rfl wF_X2_40 rfl rfl (by decide +kernel) rfl rfl rfl (uDel_1 (U := [(64, 9), (64, 10), (29, 3), (29, 4), (29, 5), (29, 6), (29, 7)])) (uDel_2 (U := [(64, 9), (64, 10), (29, 3), (29, 4), (29, 5), (29, 6), (29, 7)])) dX2_init_69 (fun H locs hw => ?_)
  have hw : aW D dA ad7 adV (aGs 72 [(64, 10), (29, 3), (29, 4), (29, 5), (29, 6), (29, 7)] (zR (zR (zR (zR (zR (zR (zR (pI (pI (pI ι 64 0 (0 : Int32)) 64 1 (1 : Int32)) 64 2 (0 : Int32)) 65) 66) 67) 68) 69) 70) 71)) A s H locs := hw
  refine lv_aload_n hx hb dX2_init_72 rfl (lv_at hl 0 rfl) ?_
  refine lv_bipush (v := (16 : Int32)) hx hb dX2_init_73 (by decide) ?_
  refine n_newa (U' := [(64, 10), (29, 3), (29, 4), (29, 5), (29, 6), (29, 7)]) (ty := .int) (t := 9) C hw (by decide) rfl (nOk.of (N := ([] : List (Nat × Nat))) (by decide +kernel) (by decide)) wA_9 rfl rfl (Or.inr (Or.inl ⟨rfl, rfl⟩)) (by decide) (by decide) (by decide) (Nat.le_of_ble_eq_true rfl) (Nat.le_of_ble_eq_true rfl) dX2_init_75 (fun ad8 H hE hw => ?_)
  have hE0 : ∀ x, x < 65 ∨ 1000000 ≤ x → ad8 x = ad x := fun x hx => (hE x (by omega)).trans (hE0 x hx)
  rw [show ad7 64 = ad8 64 from (hE 64 (by decide)).symm] at hl
  rw [show ad7 64 = ad8 64 from (hE 64 (by decide)).symm]
  have hw : aW D dA ad8 adV (aGs 73 [(64, 10), (29, 3), (29, 4), (29, 5), (29, 6), (29, 7)] (zR (zR (zR (zR (zR (zR (zR (zR (pI (pI (pI ι 64 0 (0 : Int32)) 64 1 (1 : Int32)) 64 2 (0 : Int32)) 65) 66) 67) 68) 69) 70) 71) 72)) A s H locs := hw
  refine n_putF (U' := [(29, 3), (29, 4), (29, 5), (29, 6), (29, 7)]) (ty := .array .int) (o := 64) (q := 72) (T := TX2) (N := 11) (ty0 := tyX2) C hin wU_X2 tyX2_ok nmX2 hw (by decide) rfl (by decide) rfl 10 (by decide) rfl wF_X2_43 rfl rfl (by decide +kernel) rfl rfl rfl (uDel_1 (U := [(64, 10), (29, 3), (29, 4), (29, 5), (29, 6), (29, 7)])) (uDel_2 (U := [(64, 10), (29, 3), (29, 4), (29, 5), (29, 6), (29, 7)])) dX2_init_77 (fun H locs hw => ?_)
  have hw : aW D dA ad8 adV (aGs 73 [(29, 3), (29, 4), (29, 5), (29, 6), (29, 7)] (zR (zR (zR (zR (zR (zR (zR (zR (pI (pI (pI ι 64 0 (0 : Int32)) 64 1 (1 : Int32)) 64 2 (0 : Int32)) 65) 66) 67) 68) 69) 70) 71) 72)) A s H locs := hw
  refine lv_aload_n hx hb dX2_init_80 rfl (lv_at hl 0 rfl) ?_
  obtain ⟨r81, hr81, hM⟩ := h_b hM
  refine a_callV (σ' := aGs 73 [(29, 3), (29, 4), (29, 5), (29, 6), (29, 7)] r81) (v := none) (o := 64) (As := fun ad => []) (rest := []) C hw (cs_X2_clear l (n9 := 73) (U9 := [(29, 3), (29, 4), (29, 5), (29, 6), (29, 7)]) ⟨lin64, by decide, noU (by decide)⟩ hr81) k_X2_clear wM_X2_46 ⟨⟨rfl, rfl⟩, Nat.le_of_ble_eq_true rfl, Nat.le_of_ble_eq_true rfl⟩ rfl (by decide) rfl rfl rfl hl rfl (by decide) dX2_init_81 ⟨Nat.le_of_ble_eq_true rfl, Nat.le_of_ble_eq_true rfl⟩ (fun H locs hw => ?_)
  cases h_e hM
  exact n_ret C hE0 hw dX2_init_84
set_option maxHeartbeats 400000 in
set_option maxRecDepth 100000 in
theorem ci_X2_init_73 (l : Launch) {ι res : iS} (hM : mi_X2 73 ι = some res) : aMn l yX2_init cX2_init 1 rm_X2_init (fun ad => [.ref (ad 73)]) 74 (aGs 74 [(73, 3), (73, 4), (73, 5), (73, 6), (73, 7), (73, 8), (73, 9), (73, 10), (29, 4), (29, 5), (29, 6), (29, 7)] ι) (aGs 82 [(29, 4), (29, 5), (29, 6), (29, 7)] res) 8 150 := by
  refine aMn.of (by decide) rfl (fun _ => Nat.le_of_ble_eq_true rfl) ?_
  intro p e s m args below meth c D dA ad adV A ls C hin hY hw hl
  have C : aX p m c cX2_init 1 s args aTs RX2 meth none := C
  have hx := C.1.1
  have hb := C.1.2.1
  have hown := C.1.2.2.2.1
  have hts := C.1.2.2.2.2
  have hl : lv_has ls 1 [(0, .ref (ad 73))] := hl
  replace hM : (Option.bind (m_X2_clear 73 (zR (zR (zR (zR (zR (zR (zR (zR (pI (pI (pI ι 73 0 (0 : Int32)) 73 1 (1 : Int32)) 73 2 (0 : Int32)) 74) 75) 76) 77) 78) 79) 80) 81)) fun r81 => some r81) = some res := hM
  refine lv_aload_n hx hb dX2_init_0 rfl (lv_at hl 0 rfl) ?_
  refine n_obj C wM_X2_3 hl dX2_init_1 (Nat.le_of_ble_eq_true rfl) (Nat.le_of_ble_eq_true rfl) ?_
  refine lv_aload_n hx hb dX2_init_4 rfl (lv_at hl 0 rfl) ?_
  refine lv_iconst (v := (0 : Int32)) hx hb dX2_init_5 (by decide) ?_
  refine a_puti (ty := .int) (σ := aGs 74 [(73, 3), (73, 4), (73, 5), (73, 6), (73, 7), (73, 8), (73, 9), (73, 10), (29, 4), (29, 5), (29, 6), (29, 7)] ι) (o := 73) (T := TX2) (N := 11) (ty0 := tyX2) C wU_X2 tyX2_ok nmX2 hw rfl (by decide) rfl 0 (by decide) rfl wF_X2_9 rfl (by decide +kernel) rfl rfl dX2_init_6 (fun H locs hw => ?_)
  have hw : aW D dA ad adV (aGs 74 [(73, 3), (73, 4), (73, 5), (73, 6), (73, 7), (73, 8), (73, 9), (73, 10), (29, 4), (29, 5), (29, 6), (29, 7)] (pI ι 73 0 (0 : Int32))) A s H locs := by rw [aGs_PI] at hw; exact hw
  refine lv_aload_n hx hb dX2_init_9 rfl (lv_at hl 0 rfl) ?_
  refine lv_iconst (v := (1 : Int32)) hx hb dX2_init_10 (by decide) ?_
  refine a_puti (ty := .int) (σ := aGs 74 [(73, 3), (73, 4), (73, 5), (73, 6), (73, 7), (73, 8), (73, 9), (73, 10), (29, 4), (29, 5), (29, 6), (29, 7)] (pI ι 73 0 (0 : Int32))) (o := 73) (T := TX2) (N := 11) (ty0 := tyX2) C wU_X2 tyX2_ok nmX2 hw rfl (by decide) rfl 1 (by decide) rfl wF_X2_15 rfl (by decide +kernel) rfl rfl dX2_init_11 (fun H locs hw => ?_)
  have hw : aW D dA ad adV (aGs 74 [(73, 3), (73, 4), (73, 5), (73, 6), (73, 7), (73, 8), (73, 9), (73, 10), (29, 4), (29, 5), (29, 6), (29, 7)] (pI (pI ι 73 0 (0 : Int32)) 73 1 (1 : Int32))) A s H locs := by rw [aGs_PI] at hw; exact hw
  refine lv_aload_n hx hb dX2_init_14 rfl (lv_at hl 0 rfl) ?_
  refine lv_iconst (v := (0 : Int32)) hx hb dX2_init_15 (by decide) ?_
  refine a_puti (ty := .int) (σ := aGs 74 [(73, 3), (73, 4), (73, 5), (73, 6), (73, 7), (73, 8), (73, 9), (73, 10), (29, 4), (29, 5), (29, 6), (29, 7)] (pI (pI ι 73 0 (0 : Int32)) 73 1 (1 : Int32))) (o := 73) (T := TX2) (N := 11) (ty0 := tyX2) C wU_X2 tyX2_ok nmX2 hw rfl (by decide) rfl 2 (by decide) rfl wF_X2_18 rfl (by decide +kernel) rfl rfl dX2_init_16 (fun H locs hw => ?_)
  have hw : aW D dA ad adV (aGs 74 [(73, 3), (73, 4), (73, 5), (73, 6), (73, 7), (73, 8), (73, 9), (73, 10), (29, 4), (29, 5), (29, 6), (29, 7)] (pI (pI (pI ι 73 0 (0 : Int32)) 73 1 (1 : Int32)) 73 2 (0 : Int32))) A s H locs := by rw [aGs_PI] at hw; exact hw
  refine lv_aload_n hx hb dX2_init_19 rfl (lv_at hl 0 rfl) ?_
  refine lv_bipush (v := (80 : Int32)) hx hb dX2_init_20 (by decide) ?_
  refine n_newa (U' := [(73, 3), (73, 4), (73, 5), (73, 6), (73, 7), (73, 8), (73, 9), (73, 10), (29, 4), (29, 5), (29, 6), (29, 7)]) (ty := .int) (t := 9) C hw (by decide) rfl (nOk.of (N := ([] : List (Nat × Nat))) (by decide +kernel) (by decide)) wA_9 rfl rfl (Or.inr (Or.inl ⟨rfl, rfl⟩)) (by decide) (by decide) (by decide) (Nat.le_of_ble_eq_true rfl) (Nat.le_of_ble_eq_true rfl) dX2_init_22 (fun ad1 H hE hw => ?_)
  have hE0 : ∀ x, x < 74 ∨ 1000000 ≤ x → ad1 x = ad x := fun x hx => (hE x (by omega)).trans (rfl)
  rw [show ad 73 = ad1 73 from (hE 73 (by decide)).symm] at hl
  rw [show ad 73 = ad1 73 from (hE 73 (by decide)).symm]
  have hw : aW D dA ad1 adV (aGs 75 [(73, 3), (73, 4), (73, 5), (73, 6), (73, 7), (73, 8), (73, 9), (73, 10), (29, 4), (29, 5), (29, 6), (29, 7)] (zR (pI (pI (pI ι 73 0 (0 : Int32)) 73 1 (1 : Int32)) 73 2 (0 : Int32)) 74)) A s H locs := hw
  refine n_putF (U' := [(73, 4), (73, 5), (73, 6), (73, 7), (73, 8), (73, 9), (73, 10), (29, 4), (29, 5), (29, 6), (29, 7)]) (ty := .array .int) (o := 73) (q := 74) (T := TX2) (N := 11) (ty0 := tyX2) C hin wU_X2 tyX2_ok nmX2 hw (by decide) rfl (by decide) rfl 3 (by decide) rfl wF_X2_21 rfl rfl (by decide +kernel) rfl rfl rfl (uDel_1 (U := [(73, 3), (73, 4), (73, 5), (73, 6), (73, 7), (73, 8), (73, 9), (73, 10), (29, 4), (29, 5), (29, 6), (29, 7)])) (uDel_2 (U := [(73, 3), (73, 4), (73, 5), (73, 6), (73, 7), (73, 8), (73, 9), (73, 10), (29, 4), (29, 5), (29, 6), (29, 7)])) dX2_init_24 (fun H locs hw => ?_)
  have hw : aW D dA ad1 adV (aGs 75 [(73, 4), (73, 5), (73, 6), (73, 7), (73, 8), (73, 9), (73, 10), (29, 4), (29, 5), (29, 6), (29, 7)] (zR (pI (pI (pI ι 73 0 (0 : Int32)) 73 1 (1 : Int32)) 73 2 (0 : Int32)) 74)) A s H locs := hw
  refine lv_aload_n hx hb dX2_init_27 rfl (lv_at hl 0 rfl) ?_
  refine lv_iconst (v := (5 : Int32)) hx hb dX2_init_28 (by decide) ?_
  refine n_newa (U' := [(73, 4), (73, 5), (73, 6), (73, 7), (73, 8), (73, 9), (73, 10), (29, 4), (29, 5), (29, 6), (29, 7)]) (ty := .int) (t := 9) C hw (by decide) rfl (nOk.of (N := ([] : List (Nat × Nat))) (by decide +kernel) (by decide)) wA_9 rfl rfl (Or.inr (Or.inl ⟨rfl, rfl⟩)) (by decide) (by decide) (by decide) (Nat.le_of_ble_eq_true rfl) (Nat.le_of_ble_eq_true rfl) dX2_init_29 (fun ad2 H hE hw => ?_)
  have hE0 : ∀ x, x < 74 ∨ 1000000 ≤ x → ad2 x = ad x := fun x hx => (hE x (by omega)).trans (hE0 x hx)
  rw [show ad1 73 = ad2 73 from (hE 73 (by decide)).symm] at hl
  rw [show ad1 73 = ad2 73 from (hE 73 (by decide)).symm]
  have hw : aW D dA ad2 adV (aGs 76 [(73, 4), (73, 5), (73, 6), (73, 7), (73, 8), (73, 9), (73, 10), (29, 4), (29, 5), (29, 6), (29, 7)] (zR (zR (pI (pI (pI ι 73 0 (0 : Int32)) 73 1 (1 : Int32)) 73 2 (0 : Int32)) 74) 75)) A s H locs := hw
  refine n_putF (U' := [(73, 5), (73, 6), (73, 7), (73, 8), (73, 9), (73, 10), (29, 4), (29, 5), (29, 6), (29, 7)]) (ty := .array .int) (o := 73) (q := 75) (T := TX2) (N := 11) (ty0 := tyX2) C hin wU_X2 tyX2_ok nmX2 hw (by decide) rfl (by decide) rfl 4 (by decide) rfl wF_X2_25 rfl rfl (by decide +kernel) rfl rfl rfl (uDel_1 (U := [(73, 4), (73, 5), (73, 6), (73, 7), (73, 8), (73, 9), (73, 10), (29, 4), (29, 5), (29, 6), (29, 7)])) (uDel_2 (U := [(73, 4), (73, 5), (73, 6), (73, 7), (73, 8), (73, 9), (73, 10), (29, 4), (29, 5), (29, 6), (29, 7)])) dX2_init_31 (fun H locs hw => ?_)
  have hw : aW D dA ad2 adV (aGs 76 [(73, 5), (73, 6), (73, 7), (73, 8), (73, 9), (73, 10), (29, 4), (29, 5), (29, 6), (29, 7)] (zR (zR (pI (pI (pI ι 73 0 (0 : Int32)) 73 1 (1 : Int32)) 73 2 (0 : Int32)) 74) 75)) A s H locs := hw
  refine lv_aload_n hx hb dX2_init_34 rfl (lv_at hl 0 rfl) ?_
  refine lv_iconst (v := (5 : Int32)) hx hb dX2_init_35 (by decide) ?_
  refine n_newa (U' := [(73, 5), (73, 6), (73, 7), (73, 8), (73, 9), (73, 10), (29, 4), (29, 5), (29, 6), (29, 7)]) (ty := .int) (t := 9) C hw (by decide) rfl (nOk.of (N := ([] : List (Nat × Nat))) (by decide +kernel) (by decide)) wA_9 rfl rfl (Or.inr (Or.inl ⟨rfl, rfl⟩)) (by decide) (by decide) (by decide) (Nat.le_of_ble_eq_true rfl) (Nat.le_of_ble_eq_true rfl) dX2_init_36 (fun ad3 H hE hw => ?_)
  have hE0 : ∀ x, x < 74 ∨ 1000000 ≤ x → ad3 x = ad x := fun x hx => (hE x (by omega)).trans (hE0 x hx)
  rw [show ad2 73 = ad3 73 from (hE 73 (by decide)).symm] at hl
  rw [show ad2 73 = ad3 73 from (hE 73 (by decide)).symm]
  have hw : aW D dA ad3 adV (aGs 77 [(73, 5), (73, 6), (73, 7), (73, 8), (73, 9), (73, 10), (29, 4), (29, 5), (29, 6), (29, 7)] (zR (zR (zR (pI (pI (pI ι 73 0 (0 : Int32)) 73 1 (1 : Int32)) 73 2 (0 : Int32)) 74) 75) 76)) A s H locs := hw
  refine n_putF (U' := [(73, 6), (73, 7), (73, 8), (73, 9), (73, 10), (29, 4), (29, 5), (29, 6), (29, 7)]) (ty := .array .int) (o := 73) (q := 76) (T := TX2) (N := 11) (ty0 := tyX2) C hin wU_X2 tyX2_ok nmX2 hw (by decide) rfl (by decide) rfl 5 (by decide) rfl wF_X2_28 rfl rfl (by decide +kernel) rfl rfl rfl (uDel_1 (U := [(73, 5), (73, 6), (73, 7), (73, 8), (73, 9), (73, 10), (29, 4), (29, 5), (29, 6), (29, 7)])) (uDel_2 (U := [(73, 5), (73, 6), (73, 7), (73, 8), (73, 9), (73, 10), (29, 4), (29, 5), (29, 6), (29, 7)])) dX2_init_38 (fun H locs hw => ?_)
  have hw : aW D dA ad3 adV (aGs 77 [(73, 6), (73, 7), (73, 8), (73, 9), (73, 10), (29, 4), (29, 5), (29, 6), (29, 7)] (zR (zR (zR (pI (pI (pI ι 73 0 (0 : Int32)) 73 1 (1 : Int32)) 73 2 (0 : Int32)) 74) 75) 76)) A s H locs := hw
  refine lv_aload_n hx hb dX2_init_41 rfl (lv_at hl 0 rfl) ?_
  refine lv_iconst (v := (4 : Int32)) hx hb dX2_init_42 (by decide) ?_
  refine n_newa (U' := [(73, 6), (73, 7), (73, 8), (73, 9), (73, 10), (29, 4), (29, 5), (29, 6), (29, 7)]) (ty := .int) (t := 9) C hw (by decide) rfl (nOk.of (N := ([] : List (Nat × Nat))) (by decide +kernel) (by decide)) wA_9 rfl rfl (Or.inr (Or.inl ⟨rfl, rfl⟩)) (by decide) (by decide) (by decide) (Nat.le_of_ble_eq_true rfl) (Nat.le_of_ble_eq_true rfl) dX2_init_43 (fun ad4 H hE hw => ?_)
  have hE0 : ∀ x, x < 74 ∨ 1000000 ≤ x → ad4 x = ad x := fun x hx => (hE x (by omega)).trans (hE0 x hx)
  rw [show ad3 73 = ad4 73 from (hE 73 (by decide)).symm] at hl
  rw [show ad3 73 = ad4 73 from (hE 73 (by decide)).symm]
  have hw : aW D dA ad4 adV (aGs 78 [(73, 6), (73, 7), (73, 8), (73, 9), (73, 10), (29, 4), (29, 5), (29, 6), (29, 7)] (zR (zR (zR (zR (pI (pI (pI ι 73 0 (0 : Int32)) 73 1 (1 : Int32)) 73 2 (0 : Int32)) 74) 75) 76) 77)) A s H locs := hw
  refine n_putF (U' := [(73, 7), (73, 8), (73, 9), (73, 10), (29, 4), (29, 5), (29, 6), (29, 7)]) (ty := .array .int) (o := 73) (q := 77) (T := TX2) (N := 11) (ty0 := tyX2) C hin wU_X2 tyX2_ok nmX2 hw (by decide) rfl (by decide) rfl 6 (by decide) rfl wF_X2_31 rfl rfl (by decide +kernel) rfl rfl rfl (uDel_1 (U := [(73, 6), (73, 7), (73, 8), (73, 9), (73, 10), (29, 4), (29, 5), (29, 6), (29, 7)])) (uDel_2 (U := [(73, 6), (73, 7), (73, 8), (73, 9), (73, 10), (29, 4), (29, 5), (29, 6), (29, 7)])) dX2_init_45 (fun H locs hw => ?_)
  have hw : aW D dA ad4 adV (aGs 78 [(73, 7), (73, 8), (73, 9), (73, 10), (29, 4), (29, 5), (29, 6), (29, 7)] (zR (zR (zR (zR (pI (pI (pI ι 73 0 (0 : Int32)) 73 1 (1 : Int32)) 73 2 (0 : Int32)) 74) 75) 76) 77)) A s H locs := hw
  refine lv_aload_n hx hb dX2_init_48 rfl (lv_at hl 0 rfl) ?_
  refine lv_bipush (v := (8 : Int32)) hx hb dX2_init_49 (by decide) ?_
  refine n_newa (U' := [(73, 7), (73, 8), (73, 9), (73, 10), (29, 4), (29, 5), (29, 6), (29, 7)]) (ty := .int) (t := 9) C hw (by decide) rfl (nOk.of (N := ([] : List (Nat × Nat))) (by decide +kernel) (by decide)) wA_9 rfl rfl (Or.inr (Or.inl ⟨rfl, rfl⟩)) (by decide) (by decide) (by decide) (Nat.le_of_ble_eq_true rfl) (Nat.le_of_ble_eq_true rfl) dX2_init_51 (fun ad5 H hE hw => ?_)
  have hE0 : ∀ x, x < 74 ∨ 1000000 ≤ x → ad5 x = ad x := fun x hx => (hE x (by omega)).trans (hE0 x hx)
  rw [show ad4 73 = ad5 73 from (hE 73 (by decide)).symm] at hl
  rw [show ad4 73 = ad5 73 from (hE 73 (by decide)).symm]
  have hw : aW D dA ad5 adV (aGs 79 [(73, 7), (73, 8), (73, 9), (73, 10), (29, 4), (29, 5), (29, 6), (29, 7)] (zR (zR (zR (zR (zR (pI (pI (pI ι 73 0 (0 : Int32)) 73 1 (1 : Int32)) 73 2 (0 : Int32)) 74) 75) 76) 77) 78)) A s H locs := hw
  refine n_putF (U' := [(73, 8), (73, 9), (73, 10), (29, 4), (29, 5), (29, 6), (29, 7)]) (ty := .array .int) (o := 73) (q := 78) (T := TX2) (N := 11) (ty0 := tyX2) C hin wU_X2 tyX2_ok nmX2 hw (by decide) rfl (by decide) rfl 7 (by decide) rfl wF_X2_34 rfl rfl (by decide +kernel) rfl rfl rfl (uDel_1 (U := [(73, 7), (73, 8), (73, 9), (73, 10), (29, 4), (29, 5), (29, 6), (29, 7)])) (uDel_2 (U := [(73, 7), (73, 8), (73, 9), (73, 10), (29, 4), (29, 5), (29, 6), (29, 7)])) dX2_init_53 (fun H locs hw => ?_)
  have hw : aW D dA ad5 adV (aGs 79 [(73, 8), (73, 9), (73, 10), (29, 4), (29, 5), (29, 6), (29, 7)] (zR (zR (zR (zR (zR (pI (pI (pI ι 73 0 (0 : Int32)) 73 1 (1 : Int32)) 73 2 (0 : Int32)) 74) 75) 76) 77) 78)) A s H locs := hw
  refine lv_aload_n hx hb dX2_init_56 rfl (lv_at hl 0 rfl) ?_
  refine lv_bipush (v := (16 : Int32)) hx hb dX2_init_57 (by decide) ?_
  refine n_newa (U' := [(73, 8), (73, 9), (73, 10), (29, 4), (29, 5), (29, 6), (29, 7)]) (ty := .int) (t := 9) C hw (by decide) rfl (nOk.of (N := ([] : List (Nat × Nat))) (by decide +kernel) (by decide)) wA_9 rfl rfl (Or.inr (Or.inl ⟨rfl, rfl⟩)) (by decide) (by decide) (by decide) (Nat.le_of_ble_eq_true rfl) (Nat.le_of_ble_eq_true rfl) dX2_init_59 (fun ad6 H hE hw => ?_)
  have hE0 : ∀ x, x < 74 ∨ 1000000 ≤ x → ad6 x = ad x := fun x hx => (hE x (by omega)).trans (hE0 x hx)
  rw [show ad5 73 = ad6 73 from (hE 73 (by decide)).symm] at hl
  rw [show ad5 73 = ad6 73 from (hE 73 (by decide)).symm]
  have hw : aW D dA ad6 adV (aGs 80 [(73, 8), (73, 9), (73, 10), (29, 4), (29, 5), (29, 6), (29, 7)] (zR (zR (zR (zR (zR (zR (pI (pI (pI ι 73 0 (0 : Int32)) 73 1 (1 : Int32)) 73 2 (0 : Int32)) 74) 75) 76) 77) 78) 79)) A s H locs := hw
  refine n_putF (U' := [(73, 9), (73, 10), (29, 4), (29, 5), (29, 6), (29, 7)]) (ty := .array .int) (o := 73) (q := 79) (T := TX2) (N := 11) (ty0 := tyX2) C hin wU_X2 tyX2_ok nmX2 hw (by decide) rfl (by decide) rfl 8 (by decide) rfl wF_X2_37 rfl rfl (by decide +kernel) rfl rfl rfl (uDel_1 (U := [(73, 8), (73, 9), (73, 10), (29, 4), (29, 5), (29, 6), (29, 7)])) (uDel_2 (U := [(73, 8), (73, 9), (73, 10), (29, 4), (29, 5), (29, 6), (29, 7)])) dX2_init_61 (fun H locs hw => ?_)
  have hw : aW D dA ad6 adV (aGs 80 [(73, 9), (73, 10), (29, 4), (29, 5), (29, 6), (29, 7)] (zR (zR (zR (zR (zR (zR (pI (pI (pI ι 73 0 (0 : Int32)) 73 1 (1 : Int32)) 73 2 (0 : Int32)) 74) 75) 76) 77) 78) 79)) A s H locs := hw
  refine lv_aload_n hx hb dX2_init_64 rfl (lv_at hl 0 rfl) ?_
  refine lv_bipush (v := (16 : Int32)) hx hb dX2_init_65 (by decide) ?_
  refine n_newa (U' := [(73, 9), (73, 10), (29, 4), (29, 5), (29, 6), (29, 7)]) (ty := .int) (t := 9) C hw (by decide) rfl (nOk.of (N := ([] : List (Nat × Nat))) (by decide +kernel) (by decide)) wA_9 rfl rfl (Or.inr (Or.inl ⟨rfl, rfl⟩)) (by decide) (by decide) (by decide) (Nat.le_of_ble_eq_true rfl) (Nat.le_of_ble_eq_true rfl) dX2_init_67 (fun ad7 H hE hw => ?_)
  have hE0 : ∀ x, x < 74 ∨ 1000000 ≤ x → ad7 x = ad x := fun x hx => (hE x (by omega)).trans (hE0 x hx)
  rw [show ad6 73 = ad7 73 from (hE 73 (by decide)).symm] at hl
  rw [show ad6 73 = ad7 73 from (hE 73 (by decide)).symm]
  have hw : aW D dA ad7 adV (aGs 81 [(73, 9), (73, 10), (29, 4), (29, 5), (29, 6), (29, 7)] (zR (zR (zR (zR (zR (zR (zR (pI (pI (pI ι 73 0 (0 : Int32)) 73 1 (1 : Int32)) 73 2 (0 : Int32)) 74) 75) 76) 77) 78) 79) 80)) A s H locs := hw
  refine n_putF (U' := [(73, 10), (29, 4), (29, 5), (29, 6), (29, 7)]) (ty := .array .int) (o := 73) (q := 80) (T := TX2) (N := 11) (ty0 := tyX2) C hin wU_X2 tyX2_ok nmX2 hw (by decide) rfl (by decide) rfl 9 (by decide) rfl wF_X2_40 rfl rfl (by decide +kernel) rfl rfl rfl (uDel_1 (U := [(73, 9), (73, 10), (29, 4), (29, 5), (29, 6), (29, 7)])) (uDel_2 (U := [(73, 9), (73, 10), (29, 4), (29, 5), (29, 6), (29, 7)])) dX2_init_69 (fun H locs hw => ?_)
  have hw : aW D dA ad7 adV (aGs 81 [(73, 10), (29, 4), (29, 5), (29, 6), (29, 7)] (zR (zR (zR (zR (zR (zR (zR (pI (pI (pI ι 73 0 (0 : Int32)) 73 1 (1 : Int32)) 73 2 (0 : Int32)) 74) 75) 76) 77) 78) 79) 80)) A s H locs := hw
  refine lv_aload_n hx hb dX2_init_72 rfl (lv_at hl 0 rfl) ?_
  refine lv_bipush (v := (16 : Int32)) hx hb dX2_init_73 (by decide) ?_
  refine n_newa (U' := [(73, 10), (29, 4), (29, 5), (29, 6), (29, 7)]) (ty := .int) (t := 9) C hw (by decide) rfl (nOk.of (N := ([] : List (Nat × Nat))) (by decide +kernel) (by decide)) wA_9 rfl rfl (Or.inr (Or.inl ⟨rfl, rfl⟩)) (by decide) (by decide) (by decide) (Nat.le_of_ble_eq_true rfl) (Nat.le_of_ble_eq_true rfl) dX2_init_75 (fun ad8 H hE hw => ?_)
  have hE0 : ∀ x, x < 74 ∨ 1000000 ≤ x → ad8 x = ad x := fun x hx => (hE x (by omega)).trans (hE0 x hx)
  rw [show ad7 73 = ad8 73 from (hE 73 (by decide)).symm] at hl
  rw [show ad7 73 = ad8 73 from (hE 73 (by decide)).symm]
  have hw : aW D dA ad8 adV (aGs 82 [(73, 10), (29, 4), (29, 5), (29, 6), (29, 7)] (zR (zR (zR (zR (zR (zR (zR (zR (pI (pI (pI ι 73 0 (0 : Int32)) 73 1 (1 : Int32)) 73 2 (0 : Int32)) 74) 75) 76) 77) 78) 79) 80) 81)) A s H locs := hw
  refine n_putF (U' := [(29, 4), (29, 5), (29, 6), (29, 7)]) (ty := .array .int) (o := 73) (q := 81) (T := TX2) (N := 11) (ty0 := tyX2) C hin wU_X2 tyX2_ok nmX2 hw (by decide) rfl (by decide) rfl 10 (by decide) rfl wF_X2_43 rfl rfl (by decide +kernel) rfl rfl rfl (uDel_1 (U := [(73, 10), (29, 4), (29, 5), (29, 6), (29, 7)])) (uDel_2 (U := [(73, 10), (29, 4), (29, 5), (29, 6), (29, 7)])) dX2_init_77 (fun H locs hw => ?_)
  have hw : aW D dA ad8 adV (aGs 82 [(29, 4), (29, 5), (29, 6), (29, 7)] (zR (zR (zR (zR (zR (zR (zR (zR (pI (pI (pI ι 73 0 (0 : Int32)) 73 1 (1 : Int32)) 73 2 (0 : Int32)) 74) 75) 76) 77) 78) 79) 80) 81)) A s H locs := hw
  refine lv_aload_n hx hb dX2_init_80 rfl (lv_at hl 0 rfl) ?_
  obtain ⟨r81, hr81, hM⟩ := h_b hM
  refine a_callV (σ' := aGs 82 [(29, 4), (29, 5), (29, 6), (29, 7)] r81) (v := none) (o := 73) (As := fun ad => []) (rest := []) C hw (cs_X2_clear l (n9 := 82) (U9 := [(29, 4), (29, 5), (29, 6), (29, 7)]) ⟨lin73, by decide, noU (by decide)⟩ hr81) k_X2_clear wM_X2_46 ⟨⟨rfl, rfl⟩, Nat.le_of_ble_eq_true rfl, Nat.le_of_ble_eq_true rfl⟩ rfl (by decide) rfl rfl rfl hl rfl (by decide) dX2_init_81 ⟨Nat.le_of_ble_eq_true rfl, Nat.le_of_ble_eq_true rfl⟩ (fun H locs hw => ?_)
  cases h_e hM
  exact n_ret C hE0 hw dX2_init_84
set_option maxHeartbeats 400000 in
set_option maxRecDepth 100000 in
theorem ci_X2_init_82 (l : Launch) {ι res : iS} (hM : mi_X2 82 ι = some res) : aMn l yX2_init cX2_init 1 rm_X2_init (fun ad => [.ref (ad 82)]) 83 (aGs 83 [(82, 3), (82, 4), (82, 5), (82, 6), (82, 7), (82, 8), (82, 9), (82, 10), (29, 5), (29, 6), (29, 7)] ι) (aGs 91 [(29, 5), (29, 6), (29, 7)] res) 8 150 := by
  refine aMn.of (by decide) rfl (fun _ => Nat.le_of_ble_eq_true rfl) ?_
  intro p e s m args below meth c D dA ad adV A ls C hin hY hw hl
  have C : aX p m c cX2_init 1 s args aTs RX2 meth none := C
  have hx := C.1.1
  have hb := C.1.2.1
  have hown := C.1.2.2.2.1
  have hts := C.1.2.2.2.2
  have hl : lv_has ls 1 [(0, .ref (ad 82))] := hl
  replace hM : (Option.bind (m_X2_clear 82 (zR (zR (zR (zR (zR (zR (zR (zR (pI (pI (pI ι 82 0 (0 : Int32)) 82 1 (1 : Int32)) 82 2 (0 : Int32)) 83) 84) 85) 86) 87) 88) 89) 90)) fun r81 => some r81) = some res := hM
  refine lv_aload_n hx hb dX2_init_0 rfl (lv_at hl 0 rfl) ?_
  refine n_obj C wM_X2_3 hl dX2_init_1 (Nat.le_of_ble_eq_true rfl) (Nat.le_of_ble_eq_true rfl) ?_
  refine lv_aload_n hx hb dX2_init_4 rfl (lv_at hl 0 rfl) ?_
  refine lv_iconst (v := (0 : Int32)) hx hb dX2_init_5 (by decide) ?_
  refine a_puti (ty := .int) (σ := aGs 83 [(82, 3), (82, 4), (82, 5), (82, 6), (82, 7), (82, 8), (82, 9), (82, 10), (29, 5), (29, 6), (29, 7)] ι) (o := 82) (T := TX2) (N := 11) (ty0 := tyX2) C wU_X2 tyX2_ok nmX2 hw rfl (by decide) rfl 0 (by decide) rfl wF_X2_9 rfl (by decide +kernel) rfl rfl dX2_init_6 (fun H locs hw => ?_)
  have hw : aW D dA ad adV (aGs 83 [(82, 3), (82, 4), (82, 5), (82, 6), (82, 7), (82, 8), (82, 9), (82, 10), (29, 5), (29, 6), (29, 7)] (pI ι 82 0 (0 : Int32))) A s H locs := by rw [aGs_PI] at hw; exact hw
  refine lv_aload_n hx hb dX2_init_9 rfl (lv_at hl 0 rfl) ?_
  refine lv_iconst (v := (1 : Int32)) hx hb dX2_init_10 (by decide) ?_
  refine a_puti (ty := .int) (σ := aGs 83 [(82, 3), (82, 4), (82, 5), (82, 6), (82, 7), (82, 8), (82, 9), (82, 10), (29, 5), (29, 6), (29, 7)] (pI ι 82 0 (0 : Int32))) (o := 82) (T := TX2) (N := 11) (ty0 := tyX2) C wU_X2 tyX2_ok nmX2 hw rfl (by decide) rfl 1 (by decide) rfl wF_X2_15 rfl (by decide +kernel) rfl rfl dX2_init_11 (fun H locs hw => ?_)
  have hw : aW D dA ad adV (aGs 83 [(82, 3), (82, 4), (82, 5), (82, 6), (82, 7), (82, 8), (82, 9), (82, 10), (29, 5), (29, 6), (29, 7)] (pI (pI ι 82 0 (0 : Int32)) 82 1 (1 : Int32))) A s H locs := by rw [aGs_PI] at hw; exact hw
  refine lv_aload_n hx hb dX2_init_14 rfl (lv_at hl 0 rfl) ?_
  refine lv_iconst (v := (0 : Int32)) hx hb dX2_init_15 (by decide) ?_
  refine a_puti (ty := .int) (σ := aGs 83 [(82, 3), (82, 4), (82, 5), (82, 6), (82, 7), (82, 8), (82, 9), (82, 10), (29, 5), (29, 6), (29, 7)] (pI (pI ι 82 0 (0 : Int32)) 82 1 (1 : Int32))) (o := 82) (T := TX2) (N := 11) (ty0 := tyX2) C wU_X2 tyX2_ok nmX2 hw rfl (by decide) rfl 2 (by decide) rfl wF_X2_18 rfl (by decide +kernel) rfl rfl dX2_init_16 (fun H locs hw => ?_)
  have hw : aW D dA ad adV (aGs 83 [(82, 3), (82, 4), (82, 5), (82, 6), (82, 7), (82, 8), (82, 9), (82, 10), (29, 5), (29, 6), (29, 7)] (pI (pI (pI ι 82 0 (0 : Int32)) 82 1 (1 : Int32)) 82 2 (0 : Int32))) A s H locs := by rw [aGs_PI] at hw; exact hw
  refine lv_aload_n hx hb dX2_init_19 rfl (lv_at hl 0 rfl) ?_
  refine lv_bipush (v := (80 : Int32)) hx hb dX2_init_20 (by decide) ?_
  refine n_newa (U' := [(82, 3), (82, 4), (82, 5), (82, 6), (82, 7), (82, 8), (82, 9), (82, 10), (29, 5), (29, 6), (29, 7)]) (ty := .int) (t := 9) C hw (by decide) rfl (nOk.of (N := ([] : List (Nat × Nat))) (by decide +kernel) (by decide)) wA_9 rfl rfl (Or.inr (Or.inl ⟨rfl, rfl⟩)) (by decide) (by decide) (by decide) (Nat.le_of_ble_eq_true rfl) (Nat.le_of_ble_eq_true rfl) dX2_init_22 (fun ad1 H hE hw => ?_)
  have hE0 : ∀ x, x < 83 ∨ 1000000 ≤ x → ad1 x = ad x := fun x hx => (hE x (by omega)).trans (rfl)
  rw [show ad 82 = ad1 82 from (hE 82 (by decide)).symm] at hl
  rw [show ad 82 = ad1 82 from (hE 82 (by decide)).symm]
  have hw : aW D dA ad1 adV (aGs 84 [(82, 3), (82, 4), (82, 5), (82, 6), (82, 7), (82, 8), (82, 9), (82, 10), (29, 5), (29, 6), (29, 7)] (zR (pI (pI (pI ι 82 0 (0 : Int32)) 82 1 (1 : Int32)) 82 2 (0 : Int32)) 83)) A s H locs := hw
  refine n_putF (U' := [(82, 4), (82, 5), (82, 6), (82, 7), (82, 8), (82, 9), (82, 10), (29, 5), (29, 6), (29, 7)]) (ty := .array .int) (o := 82) (q := 83) (T := TX2) (N := 11) (ty0 := tyX2) C hin wU_X2 tyX2_ok nmX2 hw (by decide) rfl (by decide) rfl 3 (by decide) rfl wF_X2_21 rfl rfl (by decide +kernel) rfl rfl rfl (uDel_1 (U := [(82, 3), (82, 4), (82, 5), (82, 6), (82, 7), (82, 8), (82, 9), (82, 10), (29, 5), (29, 6), (29, 7)])) (uDel_2 (U := [(82, 3), (82, 4), (82, 5), (82, 6), (82, 7), (82, 8), (82, 9), (82, 10), (29, 5), (29, 6), (29, 7)])) dX2_init_24 (fun H locs hw => ?_)
  have hw : aW D dA ad1 adV (aGs 84 [(82, 4), (82, 5), (82, 6), (82, 7), (82, 8), (82, 9), (82, 10), (29, 5), (29, 6), (29, 7)] (zR (pI (pI (pI ι 82 0 (0 : Int32)) 82 1 (1 : Int32)) 82 2 (0 : Int32)) 83)) A s H locs := hw
  refine lv_aload_n hx hb dX2_init_27 rfl (lv_at hl 0 rfl) ?_
  refine lv_iconst (v := (5 : Int32)) hx hb dX2_init_28 (by decide) ?_
  refine n_newa (U' := [(82, 4), (82, 5), (82, 6), (82, 7), (82, 8), (82, 9), (82, 10), (29, 5), (29, 6), (29, 7)]) (ty := .int) (t := 9) C hw (by decide) rfl (nOk.of (N := ([] : List (Nat × Nat))) (by decide +kernel) (by decide)) wA_9 rfl rfl (Or.inr (Or.inl ⟨rfl, rfl⟩)) (by decide) (by decide) (by decide) (Nat.le_of_ble_eq_true rfl) (Nat.le_of_ble_eq_true rfl) dX2_init_29 (fun ad2 H hE hw => ?_)
  have hE0 : ∀ x, x < 83 ∨ 1000000 ≤ x → ad2 x = ad x := fun x hx => (hE x (by omega)).trans (hE0 x hx)
  rw [show ad1 82 = ad2 82 from (hE 82 (by decide)).symm] at hl
  rw [show ad1 82 = ad2 82 from (hE 82 (by decide)).symm]
  have hw : aW D dA ad2 adV (aGs 85 [(82, 4), (82, 5), (82, 6), (82, 7), (82, 8), (82, 9), (82, 10), (29, 5), (29, 6), (29, 7)] (zR (zR (pI (pI (pI ι 82 0 (0 : Int32)) 82 1 (1 : Int32)) 82 2 (0 : Int32)) 83) 84)) A s H locs := hw
  refine n_putF (U' := [(82, 5), (82, 6), (82, 7), (82, 8), (82, 9), (82, 10), (29, 5), (29, 6), (29, 7)]) (ty := .array .int) (o := 82) (q := 84) (T := TX2) (N := 11) (ty0 := tyX2) C hin wU_X2 tyX2_ok nmX2 hw (by decide) rfl (by decide) rfl 4 (by decide) rfl wF_X2_25 rfl rfl (by decide +kernel) rfl rfl rfl (uDel_1 (U := [(82, 4), (82, 5), (82, 6), (82, 7), (82, 8), (82, 9), (82, 10), (29, 5), (29, 6), (29, 7)])) (uDel_2 (U := [(82, 4), (82, 5), (82, 6), (82, 7), (82, 8), (82, 9), (82, 10), (29, 5), (29, 6), (29, 7)])) dX2_init_31 (fun H locs hw => ?_)
  have hw : aW D dA ad2 adV (aGs 85 [(82, 5), (82, 6), (82, 7), (82, 8), (82, 9), (82, 10), (29, 5), (29, 6), (29, 7)] (zR (zR (pI (pI (pI ι 82 0 (0 : Int32)) 82 1 (1 : Int32)) 82 2 (0 : Int32)) 83) 84)) A s H locs := hw
  refine lv_aload_n hx hb dX2_init_34 rfl (lv_at hl 0 rfl) ?_
  refine lv_iconst (v := (5 : Int32)) hx hb dX2_init_35 (by decide) ?_
  refine n_newa (U' := [(82, 5), (82, 6), (82, 7), (82, 8), (82, 9), (82, 10), (29, 5), (29, 6), (29, 7)]) (ty := .int) (t := 9) C hw (by decide) rfl (nOk.of (N := ([] : List (Nat × Nat))) (by decide +kernel) (by decide)) wA_9 rfl rfl (Or.inr (Or.inl ⟨rfl, rfl⟩)) (by decide) (by decide) (by decide) (Nat.le_of_ble_eq_true rfl) (Nat.le_of_ble_eq_true rfl) dX2_init_36 (fun ad3 H hE hw => ?_)
  have hE0 : ∀ x, x < 83 ∨ 1000000 ≤ x → ad3 x = ad x := fun x hx => (hE x (by omega)).trans (hE0 x hx)
  rw [show ad2 82 = ad3 82 from (hE 82 (by decide)).symm] at hl
  rw [show ad2 82 = ad3 82 from (hE 82 (by decide)).symm]
  have hw : aW D dA ad3 adV (aGs 86 [(82, 5), (82, 6), (82, 7), (82, 8), (82, 9), (82, 10), (29, 5), (29, 6), (29, 7)] (zR (zR (zR (pI (pI (pI ι 82 0 (0 : Int32)) 82 1 (1 : Int32)) 82 2 (0 : Int32)) 83) 84) 85)) A s H locs := hw
  refine n_putF (U' := [(82, 6), (82, 7), (82, 8), (82, 9), (82, 10), (29, 5), (29, 6), (29, 7)]) (ty := .array .int) (o := 82) (q := 85) (T := TX2) (N := 11) (ty0 := tyX2) C hin wU_X2 tyX2_ok nmX2 hw (by decide) rfl (by decide) rfl 5 (by decide) rfl wF_X2_28 rfl rfl (by decide +kernel) rfl rfl rfl (uDel_1 (U := [(82, 5), (82, 6), (82, 7), (82, 8), (82, 9), (82, 10), (29, 5), (29, 6), (29, 7)])) (uDel_2 (U := [(82, 5), (82, 6), (82, 7), (82, 8), (82, 9), (82, 10), (29, 5), (29, 6), (29, 7)])) dX2_init_38 (fun H locs hw => ?_)
  have hw : aW D dA ad3 adV (aGs 86 [(82, 6), (82, 7), (82, 8), (82, 9), (82, 10), (29, 5), (29, 6), (29, 7)] (zR (zR (zR (pI (pI (pI ι 82 0 (0 : Int32)) 82 1 (1 : Int32)) 82 2 (0 : Int32)) 83) 84) 85)) A s H locs := hw
  refine lv_aload_n hx hb dX2_init_41 rfl (lv_at hl 0 rfl) ?_
  refine lv_iconst (v := (4 : Int32)) hx hb dX2_init_42 (by decide) ?_
  refine n_newa (U' := [(82, 6), (82, 7), (82, 8), (82, 9), (82, 10), (29, 5), (29, 6), (29, 7)]) (ty := .int) (t := 9) C hw (by decide) rfl (nOk.of (N := ([] : List (Nat × Nat))) (by decide +kernel) (by decide)) wA_9 rfl rfl (Or.inr (Or.inl ⟨rfl, rfl⟩)) (by decide) (by decide) (by decide) (Nat.le_of_ble_eq_true rfl) (Nat.le_of_ble_eq_true rfl) dX2_init_43 (fun ad4 H hE hw => ?_)
  have hE0 : ∀ x, x < 83 ∨ 1000000 ≤ x → ad4 x = ad x := fun x hx => (hE x (by omega)).trans (hE0 x hx)
  rw [show ad3 82 = ad4 82 from (hE 82 (by decide)).symm] at hl
  rw [show ad3 82 = ad4 82 from (hE 82 (by decide)).symm]
  have hw : aW D dA ad4 adV (aGs 87 [(82, 6), (82, 7), (82, 8), (82, 9), (82, 10), (29, 5), (29, 6), (29, 7)] (zR (zR (zR (zR (pI (pI (pI ι 82 0 (0 : Int32)) 82 1 (1 : Int32)) 82 2 (0 : Int32)) 83) 84) 85) 86)) A s H locs := hw
  refine n_putF (U' := [(82, 7), (82, 8), (82, 9), (82, 10), (29, 5), (29, 6), (29, 7)]) (ty := .array .int) (o := 82) (q := 86) (T := TX2) (N := 11) (ty0 := tyX2) C hin wU_X2 tyX2_ok nmX2 hw (by decide) rfl (by decide) rfl 6 (by decide) rfl wF_X2_31 rfl rfl (by decide +kernel) rfl rfl rfl (uDel_1 (U := [(82, 6), (82, 7), (82, 8), (82, 9), (82, 10), (29, 5), (29, 6), (29, 7)])) (uDel_2 (U := [(82, 6), (82, 7), (82, 8), (82, 9), (82, 10), (29, 5), (29, 6), (29, 7)])) dX2_init_45 (fun H locs hw => ?_)
  have hw : aW D dA ad4 adV (aGs 87 [(82, 7), (82, 8), (82, 9), (82, 10), (29, 5), (29, 6), (29, 7)] (zR (zR (zR (zR (pI (pI (pI ι 82 0 (0 : Int32)) 82 1 (1 : Int32)) 82 2 (0 : Int32)) 83) 84) 85) 86)) A s H locs := hw
  refine lv_aload_n hx hb dX2_init_48 rfl (lv_at hl 0 rfl) ?_
  refine lv_bipush (v := (8 : Int32)) hx hb dX2_init_49 (by decide) ?_
  refine n_newa (U' := [(82, 7), (82, 8), (82, 9), (82, 10), (29, 5), (29, 6), (29, 7)]) (ty := .int) (t := 9) C hw (by decide) rfl (nOk.of (N := ([] : List (Nat × Nat))) (by decide +kernel) (by decide)) wA_9 rfl rfl (Or.inr (Or.inl ⟨rfl, rfl⟩)) (by decide) (by decide) (by decide) (Nat.le_of_ble_eq_true rfl) (Nat.le_of_ble_eq_true rfl) dX2_init_51 (fun ad5 H hE hw => ?_)
  have hE0 : ∀ x, x < 83 ∨ 1000000 ≤ x → ad5 x = ad x := fun x hx => (hE x (by omega)).trans (hE0 x hx)
  rw [show ad4 82 = ad5 82 from (hE 82 (by decide)).symm] at hl
  rw [show ad4 82 = ad5 82 from (hE 82 (by decide)).symm]
  have hw : aW D dA ad5 adV (aGs 88 [(82, 7), (82, 8), (82, 9), (82, 10), (29, 5), (29, 6), (29, 7)] (zR (zR (zR (zR (zR (pI (pI (pI ι 82 0 (0 : Int32)) 82 1 (1 : Int32)) 82 2 (0 : Int32)) 83) 84) 85) 86) 87)) A s H locs := hw
  refine n_putF (U' := [(82, 8), (82, 9), (82, 10), (29, 5), (29, 6), (29, 7)]) (ty := .array .int) (o := 82) (q := 87) (T := TX2) (N := 11) (ty0 := tyX2) C hin wU_X2 tyX2_ok nmX2 hw (by decide) rfl (by decide) rfl 7 (by decide) rfl wF_X2_34 rfl rfl (by decide +kernel) rfl rfl rfl (uDel_1 (U := [(82, 7), (82, 8), (82, 9), (82, 10), (29, 5), (29, 6), (29, 7)])) (uDel_2 (U := [(82, 7), (82, 8), (82, 9), (82, 10), (29, 5), (29, 6), (29, 7)])) dX2_init_53 (fun H locs hw => ?_)
  have hw : aW D dA ad5 adV (aGs 88 [(82, 8), (82, 9), (82, 10), (29, 5), (29, 6), (29, 7)] (zR (zR (zR (zR (zR (pI (pI (pI ι 82 0 (0 : Int32)) 82 1 (1 : Int32)) 82 2 (0 : Int32)) 83) 84) 85) 86) 87)) A s H locs := hw
  refine lv_aload_n hx hb dX2_init_56 rfl (lv_at hl 0 rfl) ?_
  refine lv_bipush (v := (16 : Int32)) hx hb dX2_init_57 (by decide) ?_
  refine n_newa (U' := [(82, 8), (82, 9), (82, 10), (29, 5), (29, 6), (29, 7)]) (ty := .int) (t := 9) C hw (by decide) rfl (nOk.of (N := ([] : List (Nat × Nat))) (by decide +kernel) (by decide)) wA_9 rfl rfl (Or.inr (Or.inl ⟨rfl, rfl⟩)) (by decide) (by decide) (by decide) (Nat.le_of_ble_eq_true rfl) (Nat.le_of_ble_eq_true rfl) dX2_init_59 (fun ad6 H hE hw => ?_)
  have hE0 : ∀ x, x < 83 ∨ 1000000 ≤ x → ad6 x = ad x := fun x hx => (hE x (by omega)).trans (hE0 x hx)
  rw [show ad5 82 = ad6 82 from (hE 82 (by decide)).symm] at hl
  rw [show ad5 82 = ad6 82 from (hE 82 (by decide)).symm]
  have hw : aW D dA ad6 adV (aGs 89 [(82, 8), (82, 9), (82, 10), (29, 5), (29, 6), (29, 7)] (zR (zR (zR (zR (zR (zR (pI (pI (pI ι 82 0 (0 : Int32)) 82 1 (1 : Int32)) 82 2 (0 : Int32)) 83) 84) 85) 86) 87) 88)) A s H locs := hw
  refine n_putF (U' := [(82, 9), (82, 10), (29, 5), (29, 6), (29, 7)]) (ty := .array .int) (o := 82) (q := 88) (T := TX2) (N := 11) (ty0 := tyX2) C hin wU_X2 tyX2_ok nmX2 hw (by decide) rfl (by decide) rfl 8 (by decide) rfl wF_X2_37 rfl rfl (by decide +kernel) rfl rfl rfl (uDel_1 (U := [(82, 8), (82, 9), (82, 10), (29, 5), (29, 6), (29, 7)])) (uDel_2 (U := [(82, 8), (82, 9), (82, 10), (29, 5), (29, 6), (29, 7)])) dX2_init_61 (fun H locs hw => ?_)
  have hw : aW D dA ad6 adV (aGs 89 [(82, 9), (82, 10), (29, 5), (29, 6), (29, 7)] (zR (zR (zR (zR (zR (zR (pI (pI (pI ι 82 0 (0 : Int32)) 82 1 (1 : Int32)) 82 2 (0 : Int32)) 83) 84) 85) 86) 87) 88)) A s H locs := hw
  refine lv_aload_n hx hb dX2_init_64 rfl (lv_at hl 0 rfl) ?_
  refine lv_bipush (v := (16 : Int32)) hx hb dX2_init_65 (by decide) ?_
  refine n_newa (U' := [(82, 9), (82, 10), (29, 5), (29, 6), (29, 7)]) (ty := .int) (t := 9) C hw (by decide) rfl (nOk.of (N := ([] : List (Nat × Nat))) (by decide +kernel) (by decide)) wA_9 rfl rfl (Or.inr (Or.inl ⟨rfl, rfl⟩)) (by decide) (by decide) (by decide) (Nat.le_of_ble_eq_true rfl) (Nat.le_of_ble_eq_true rfl) dX2_init_67 (fun ad7 H hE hw => ?_)
  have hE0 : ∀ x, x < 83 ∨ 1000000 ≤ x → ad7 x = ad x := fun x hx => (hE x (by omega)).trans (hE0 x hx)
  rw [show ad6 82 = ad7 82 from (hE 82 (by decide)).symm] at hl
  rw [show ad6 82 = ad7 82 from (hE 82 (by decide)).symm]
  have hw : aW D dA ad7 adV (aGs 90 [(82, 9), (82, 10), (29, 5), (29, 6), (29, 7)] (zR (zR (zR (zR (zR (zR (zR (pI (pI (pI ι 82 0 (0 : Int32)) 82 1 (1 : Int32)) 82 2 (0 : Int32)) 83) 84) 85) 86) 87) 88) 89)) A s H locs := hw
  refine n_putF (U' := [(82, 10), (29, 5), (29, 6), (29, 7)]) (ty := .array .int) (o := 82) (q := 89) (T := TX2) (N := 11) (ty0 := tyX2) C hin wU_X2 tyX2_ok nmX2 hw (by decide) rfl (by decide) rfl 9 (by decide) rfl wF_X2_40 rfl rfl (by decide +kernel) rfl rfl rfl (uDel_1 (U := [(82, 9), (82, 10), (29, 5), (29, 6), (29, 7)])) (uDel_2 (U := [(82, 9), (82, 10), (29, 5), (29, 6), (29, 7)])) dX2_init_69 (fun H locs hw => ?_)
  have hw : aW D dA ad7 adV (aGs 90 [(82, 10), (29, 5), (29, 6), (29, 7)] (zR (zR (zR (zR (zR (zR (zR (pI (pI (pI ι 82 0 (0 : Int32)) 82 1 (1 : Int32)) 82 2 (0 : Int32)) 83) 84) 85) 86) 87) 88) 89)) A s H locs := hw
  refine lv_aload_n hx hb dX2_init_72 rfl (lv_at hl 0 rfl) ?_
  refine lv_bipush (v := (16 : Int32)) hx hb dX2_init_73 (by decide) ?_
  refine n_newa (U' := [(82, 10), (29, 5), (29, 6), (29, 7)]) (ty := .int) (t := 9) C hw (by decide) rfl (nOk.of (N := ([] : List (Nat × Nat))) (by decide +kernel) (by decide)) wA_9 rfl rfl (Or.inr (Or.inl ⟨rfl, rfl⟩)) (by decide) (by decide) (by decide) (Nat.le_of_ble_eq_true rfl) (Nat.le_of_ble_eq_true rfl) dX2_init_75 (fun ad8 H hE hw => ?_)
  have hE0 : ∀ x, x < 83 ∨ 1000000 ≤ x → ad8 x = ad x := fun x hx => (hE x (by omega)).trans (hE0 x hx)
  rw [show ad7 82 = ad8 82 from (hE 82 (by decide)).symm] at hl
  rw [show ad7 82 = ad8 82 from (hE 82 (by decide)).symm]
  have hw : aW D dA ad8 adV (aGs 91 [(82, 10), (29, 5), (29, 6), (29, 7)] (zR (zR (zR (zR (zR (zR (zR (zR (pI (pI (pI ι 82 0 (0 : Int32)) 82 1 (1 : Int32)) 82 2 (0 : Int32)) 83) 84) 85) 86) 87) 88) 89) 90)) A s H locs := hw
  refine n_putF (U' := [(29, 5), (29, 6), (29, 7)]) (ty := .array .int) (o := 82) (q := 90) (T := TX2) (N := 11) (ty0 := tyX2) C hin wU_X2 tyX2_ok nmX2 hw (by decide) rfl (by decide) rfl 10 (by decide) rfl wF_X2_43 rfl rfl (by decide +kernel) rfl rfl rfl (uDel_1 (U := [(82, 10), (29, 5), (29, 6), (29, 7)])) (uDel_2 (U := [(82, 10), (29, 5), (29, 6), (29, 7)])) dX2_init_77 (fun H locs hw => ?_)
  have hw : aW D dA ad8 adV (aGs 91 [(29, 5), (29, 6), (29, 7)] (zR (zR (zR (zR (zR (zR (zR (zR (pI (pI (pI ι 82 0 (0 : Int32)) 82 1 (1 : Int32)) 82 2 (0 : Int32)) 83) 84) 85) 86) 87) 88) 89) 90)) A s H locs := hw
  refine lv_aload_n hx hb dX2_init_80 rfl (lv_at hl 0 rfl) ?_
  obtain ⟨r81, hr81, hM⟩ := h_b hM
  refine a_callV (σ' := aGs 91 [(29, 5), (29, 6), (29, 7)] r81) (v := none) (o := 82) (As := fun ad => []) (rest := []) C hw (cs_X2_clear l (n9 := 91) (U9 := [(29, 5), (29, 6), (29, 7)]) ⟨lin82, by decide, noU (by decide)⟩ hr81) k_X2_clear wM_X2_46 ⟨⟨rfl, rfl⟩, Nat.le_of_ble_eq_true rfl, Nat.le_of_ble_eq_true rfl⟩ rfl (by decide) rfl rfl rfl hl rfl (by decide) dX2_init_81 ⟨Nat.le_of_ble_eq_true rfl, Nat.le_of_ble_eq_true rfl⟩ (fun H locs hw => ?_)
  cases h_e hM
  exact n_ret C hE0 hw dX2_init_84
set_option maxHeartbeats 400000 in
set_option maxRecDepth 100000 in
theorem ci_X2_init_91 (l : Launch) {ι res : iS} (hM : mi_X2 91 ι = some res) : aMn l yX2_init cX2_init 1 rm_X2_init (fun ad => [.ref (ad 91)]) 92 (aGs 92 [(91, 3), (91, 4), (91, 5), (91, 6), (91, 7), (91, 8), (91, 9), (91, 10), (29, 6), (29, 7)] ι) (aGs 100 [(29, 6), (29, 7)] res) 8 150 := by
  refine aMn.of (by decide) rfl (fun _ => Nat.le_of_ble_eq_true rfl) ?_
  intro p e s m args below meth c D dA ad adV A ls C hin hY hw hl
  have C : aX p m c cX2_init 1 s args aTs RX2 meth none := C
  have hx := C.1.1
  have hb := C.1.2.1
  have hown := C.1.2.2.2.1
  have hts := C.1.2.2.2.2
  have hl : lv_has ls 1 [(0, .ref (ad 91))] := hl
  replace hM : (Option.bind (m_X2_clear 91 (zR (zR (zR (zR (zR (zR (zR (zR (pI (pI (pI ι 91 0 (0 : Int32)) 91 1 (1 : Int32)) 91 2 (0 : Int32)) 92) 93) 94) 95) 96) 97) 98) 99)) fun r81 => some r81) = some res := hM
  refine lv_aload_n hx hb dX2_init_0 rfl (lv_at hl 0 rfl) ?_
  refine n_obj C wM_X2_3 hl dX2_init_1 (Nat.le_of_ble_eq_true rfl) (Nat.le_of_ble_eq_true rfl) ?_
  refine lv_aload_n hx hb dX2_init_4 rfl (lv_at hl 0 rfl) ?_
  refine lv_iconst (v := (0 : Int32)) hx hb dX2_init_5 (by decide) ?_
  refine a_puti (ty := .int) (σ := aGs 92 [(91, 3), (91, 4), (91, 5), (91, 6), (91, 7), (91, 8), (91, 9), (91, 10), (29, 6), (29, 7)] ι) (o := 91) (T := TX2) (N := 11) (ty0 := tyX2) C wU_X2 tyX2_ok nmX2 hw rfl (by decide) rfl 0 (by decide) rfl wF_X2_9 rfl (by decide +kernel) rfl rfl dX2_init_6 (fun H locs hw => ?_)
  have hw : aW D dA ad adV (aGs 92 [(91, 3), (91, 4), (91, 5), (91, 6), (91, 7), (91, 8), (91, 9), (91, 10), (29, 6), (29, 7)] (pI ι 91 0 (0 : Int32))) A s H locs := by rw [aGs_PI] at hw; exact hw
  refine lv_aload_n hx hb dX2_init_9 rfl (lv_at hl 0 rfl) ?_
  refine lv_iconst (v := (1 : Int32)) hx hb dX2_init_10 (by decide) ?_
  refine a_puti (ty := .int) (σ := aGs 92 [(91, 3), (91, 4), (91, 5), (91, 6), (91, 7), (91, 8), (91, 9), (91, 10), (29, 6), (29, 7)] (pI ι 91 0 (0 : Int32))) (o := 91) (T := TX2) (N := 11) (ty0 := tyX2) C wU_X2 tyX2_ok nmX2 hw rfl (by decide) rfl 1 (by decide) rfl wF_X2_15 rfl (by decide +kernel) rfl rfl dX2_init_11 (fun H locs hw => ?_)
  have hw : aW D dA ad adV (aGs 92 [(91, 3), (91, 4), (91, 5), (91, 6), (91, 7), (91, 8), (91, 9), (91, 10), (29, 6), (29, 7)] (pI (pI ι 91 0 (0 : Int32)) 91 1 (1 : Int32))) A s H locs := by rw [aGs_PI] at hw; exact hw
  refine lv_aload_n hx hb dX2_init_14 rfl (lv_at hl 0 rfl) ?_
  refine lv_iconst (v := (0 : Int32)) hx hb dX2_init_15 (by decide) ?_
  refine a_puti (ty := .int) (σ := aGs 92 [(91, 3), (91, 4), (91, 5), (91, 6), (91, 7), (91, 8), (91, 9), (91, 10), (29, 6), (29, 7)] (pI (pI ι 91 0 (0 : Int32)) 91 1 (1 : Int32))) (o := 91) (T := TX2) (N := 11) (ty0 := tyX2) C wU_X2 tyX2_ok nmX2 hw rfl (by decide) rfl 2 (by decide) rfl wF_X2_18 rfl (by decide +kernel) rfl rfl dX2_init_16 (fun H locs hw => ?_)
  have hw : aW D dA ad adV (aGs 92 [(91, 3), (91, 4), (91, 5), (91, 6), (91, 7), (91, 8), (91, 9), (91, 10), (29, 6), (29, 7)] (pI (pI (pI ι 91 0 (0 : Int32)) 91 1 (1 : Int32)) 91 2 (0 : Int32))) A s H locs := by rw [aGs_PI] at hw; exact hw
  refine lv_aload_n hx hb dX2_init_19 rfl (lv_at hl 0 rfl) ?_
  refine lv_bipush (v := (80 : Int32)) hx hb dX2_init_20 (by decide) ?_
  refine n_newa (U' := [(91, 3), (91, 4), (91, 5), (91, 6), (91, 7), (91, 8), (91, 9), (91, 10), (29, 6), (29, 7)]) (ty := .int) (t := 9) C hw (by decide) rfl (nOk.of (N := ([] : List (Nat × Nat))) (by decide +kernel) (by decide)) wA_9 rfl rfl (Or.inr (Or.inl ⟨rfl, rfl⟩)) (by decide) (by decide) (by decide) (Nat.le_of_ble_eq_true rfl) (Nat.le_of_ble_eq_true rfl) dX2_init_22 (fun ad1 H hE hw => ?_)
  have hE0 : ∀ x, x < 92 ∨ 1000000 ≤ x → ad1 x = ad x := fun x hx => (hE x (by omega)).trans (rfl)
  rw [show ad 91 = ad1 91 from (hE 91 (by decide)).symm] at hl
  rw [show ad 91 = ad1 91 from (hE 91 (by decide)).symm]
  have hw : aW D dA ad1 adV (aGs 93 [(91, 3), (91, 4), (91, 5), (91, 6), (91, 7), (91, 8), (91, 9), (91, 10), (29, 6), (29, 7)] (zR (pI (pI (pI ι 91 0 (0 : Int32)) 91 1 (1 : Int32)) 91 2 (0 : Int32)) 92)) A s H locs := hw
  refine n_putF (U' := [(91, 4), (91, 5), (91, 6), (91, 7), (91, 8), (91, 9), (91, 10), (29, 6), (29, 7)]) (ty := .array .int) (o := 91) (q := 92) (T := TX2) (N := 11) (ty0 := tyX2) C hin wU_X2 tyX2_ok nmX2 hw (by decide) rfl (by decide) rfl 3 (by decide) rfl wF_X2_21 rfl rfl (by decide +kernel) rfl rfl rfl (uDel_1 (U := [(91, 3), (91, 4), (91, 5), (91, 6), (91, 7), (91, 8), (91, 9), (91, 10), (29, 6), (29, 7)])) (uDel_2 (U := [(91, 3), (91, 4), (91, 5), (91, 6), (91, 7), (91, 8), (91, 9), (91, 10), (29, 6), (29, 7)])) dX2_init_24 (fun H locs hw => ?_)
  have hw : aW D dA ad1 adV (aGs 93 [(91, 4), (91, 5), (91, 6), (91, 7), (91, 8), (91, 9), (91, 10), (29, 6), (29, 7)] (zR (pI (pI (pI ι 91 0 (0 : Int32)) 91 1 (1 : Int32)) 91 2 (0 : Int32)) 92)) A s H locs := hw
  refine lv_aload_n hx hb dX2_init_27 rfl (lv_at hl 0 rfl) ?_
  refine lv_iconst (v := (5 : Int32)) hx hb dX2_init_28 (by decide) ?_
  refine n_newa (U' := [(91, 4), (91, 5), (91, 6), (91, 7), (91, 8), (91, 9), (91, 10), (29, 6), (29, 7)]) (ty := .int) (t := 9) C hw (by decide) rfl (nOk.of (N := ([] : List (Nat × Nat))) (by decide +kernel) (by decide)) wA_9 rfl rfl (Or.inr (Or.inl ⟨rfl, rfl⟩)) (by decide) (by decide) (by decide) (Nat.le_of_ble_eq_true rfl) (Nat.le_of_ble_eq_true rfl) dX2_init_29 (fun ad2 H hE hw => ?_)
  have hE0 : ∀ x, x < 92 ∨ 1000000 ≤ x → ad2 x = ad x := fun x hx => (hE x (by omega)).trans (hE0 x hx)
  rw [show ad1 91 = ad2 91 from (hE 91 (by decide)).symm] at hl
  rw [show ad1 91 = ad2 91 from (hE 91 (by decide)).symm]
  have hw : aW D dA ad2 adV (aGs 94 [(91, 4), (91, 5), (91, 6), (91, 7), (91, 8), (91, 9), (91, 10), (29, 6), (29, 7)] (zR (zR (pI (pI (pI ι 91 0 (0 : Int32)) 91 1 (1 : Int32)) 91 2 (0 : Int32)) 92) 93)) A s H locs := hw
  refine n_putF (U' := [(91, 5), (91, 6), (91, 7), (91, 8), (91, 9), (91, 10), (29, 6), (29, 7)]) (ty := .array .int) (o := 91) (q := 93) (T := TX2) (N := 11) (ty0 := tyX2) C hin wU_X2 tyX2_ok nmX2 hw (by decide) rfl (by decide) rfl 4 (by decide) rfl wF_X2_25 rfl rfl (by decide +kernel) rfl rfl rfl (uDel_1 (U := [(91, 4), (91, 5), (91, 6), (91, 7), (91, 8), (91, 9), (91, 10), (29, 6), (29, 7)])) (uDel_2 (U := [(91, 4), (91, 5), (91, 6), (91, 7), (91, 8), (91, 9), (91, 10), (29, 6), (29, 7)])) dX2_init_31 (fun H locs hw => ?_)
  have hw : aW D dA ad2 adV (aGs 94 [(91, 5), (91, 6), (91, 7), (91, 8), (91, 9), (91, 10), (29, 6), (29, 7)] (zR (zR (pI (pI (pI ι 91 0 (0 : Int32)) 91 1 (1 : Int32)) 91 2 (0 : Int32)) 92) 93)) A s H locs := hw
  refine lv_aload_n hx hb dX2_init_34 rfl (lv_at hl 0 rfl) ?_
  refine lv_iconst (v := (5 : Int32)) hx hb dX2_init_35 (by decide) ?_
  refine n_newa (U' := [(91, 5), (91, 6), (91, 7), (91, 8), (91, 9), (91, 10), (29, 6), (29, 7)]) (ty := .int) (t := 9) C hw (by decide) rfl (nOk.of (N := ([] : List (Nat × Nat))) (by decide +kernel) (by decide)) wA_9 rfl rfl (Or.inr (Or.inl ⟨rfl, rfl⟩)) (by decide) (by decide) (by decide) (Nat.le_of_ble_eq_true rfl) (Nat.le_of_ble_eq_true rfl) dX2_init_36 (fun ad3 H hE hw => ?_)
  have hE0 : ∀ x, x < 92 ∨ 1000000 ≤ x → ad3 x = ad x := fun x hx => (hE x (by omega)).trans (hE0 x hx)
  rw [show ad2 91 = ad3 91 from (hE 91 (by decide)).symm] at hl
  rw [show ad2 91 = ad3 91 from (hE 91 (by decide)).symm]
  have hw : aW D dA ad3 adV (aGs 95 [(91, 5), (91, 6), (91, 7), (91, 8), (91, 9), (91, 10), (29, 6), (29, 7)] (zR (zR (zR (pI (pI (pI ι 91 0 (0 : Int32)) 91 1 (1 : Int32)) 91 2 (0 : Int32)) 92) 93) 94)) A s H locs := hw
  refine n_putF (U' := [(91, 6), (91, 7), (91, 8), (91, 9), (91, 10), (29, 6), (29, 7)]) (ty := .array .int) (o := 91) (q := 94) (T := TX2) (N := 11) (ty0 := tyX2) C hin wU_X2 tyX2_ok nmX2 hw (by decide) rfl (by decide) rfl 5 (by decide) rfl wF_X2_28 rfl rfl (by decide +kernel) rfl rfl rfl (uDel_1 (U := [(91, 5), (91, 6), (91, 7), (91, 8), (91, 9), (91, 10), (29, 6), (29, 7)])) (uDel_2 (U := [(91, 5), (91, 6), (91, 7), (91, 8), (91, 9), (91, 10), (29, 6), (29, 7)])) dX2_init_38 (fun H locs hw => ?_)
  have hw : aW D dA ad3 adV (aGs 95 [(91, 6), (91, 7), (91, 8), (91, 9), (91, 10), (29, 6), (29, 7)] (zR (zR (zR (pI (pI (pI ι 91 0 (0 : Int32)) 91 1 (1 : Int32)) 91 2 (0 : Int32)) 92) 93) 94)) A s H locs := hw
  refine lv_aload_n hx hb dX2_init_41 rfl (lv_at hl 0 rfl) ?_
  refine lv_iconst (v := (4 : Int32)) hx hb dX2_init_42 (by decide) ?_
  refine n_newa (U' := [(91, 6), (91, 7), (91, 8), (91, 9), (91, 10), (29, 6), (29, 7)]) (ty := .int) (t := 9) C hw (by decide) rfl (nOk.of (N := ([] : List (Nat × Nat))) (by decide +kernel) (by decide)) wA_9 rfl rfl (Or.inr (Or.inl ⟨rfl, rfl⟩)) (by decide) (by decide) (by decide) (Nat.le_of_ble_eq_true rfl) (Nat.le_of_ble_eq_true rfl) dX2_init_43 (fun ad4 H hE hw => ?_)
  have hE0 : ∀ x, x < 92 ∨ 1000000 ≤ x → ad4 x = ad x := fun x hx => (hE x (by omega)).trans (hE0 x hx)
  rw [show ad3 91 = ad4 91 from (hE 91 (by decide)).symm] at hl
  rw [show ad3 91 = ad4 91 from (hE 91 (by decide)).symm]
  have hw : aW D dA ad4 adV (aGs 96 [(91, 6), (91, 7), (91, 8), (91, 9), (91, 10), (29, 6), (29, 7)] (zR (zR (zR (zR (pI (pI (pI ι 91 0 (0 : Int32)) 91 1 (1 : Int32)) 91 2 (0 : Int32)) 92) 93) 94) 95)) A s H locs := hw
  refine n_putF (U' := [(91, 7), (91, 8), (91, 9), (91, 10), (29, 6), (29, 7)]) (ty := .array .int) (o := 91) (q := 95) (T := TX2) (N := 11) (ty0 := tyX2) C hin wU_X2 tyX2_ok nmX2 hw (by decide) rfl (by decide) rfl 6 (by decide) rfl wF_X2_31 rfl rfl (by decide +kernel) rfl rfl rfl (uDel_1 (U := [(91, 6), (91, 7), (91, 8), (91, 9), (91, 10), (29, 6), (29, 7)])) (uDel_2 (U := [(91, 6), (91, 7), (91, 8), (91, 9), (91, 10), (29, 6), (29, 7)])) dX2_init_45 (fun H locs hw => ?_)
  have hw : aW D dA ad4 adV (aGs 96 [(91, 7), (91, 8), (91, 9), (91, 10), (29, 6), (29, 7)] (zR (zR (zR (zR (pI (pI (pI ι 91 0 (0 : Int32)) 91 1 (1 : Int32)) 91 2 (0 : Int32)) 92) 93) 94) 95)) A s H locs := hw
  refine lv_aload_n hx hb dX2_init_48 rfl (lv_at hl 0 rfl) ?_
  refine lv_bipush (v := (8 : Int32)) hx hb dX2_init_49 (by decide) ?_
  refine n_newa (U' := [(91, 7), (91, 8), (91, 9), (91, 10), (29, 6), (29, 7)]) (ty := .int) (t := 9) C hw (by decide) rfl (nOk.of (N := ([] : List (Nat × Nat))) (by decide +kernel) (by decide)) wA_9 rfl rfl (Or.inr (Or.inl ⟨rfl, rfl⟩)) (by decide) (by decide) (by decide) (Nat.le_of_ble_eq_true rfl) (Nat.le_of_ble_eq_true rfl) dX2_init_51 (fun ad5 H hE hw => ?_)
  have hE0 : ∀ x, x < 92 ∨ 1000000 ≤ x → ad5 x = ad x := fun x hx => (hE x (by omega)).trans (hE0 x hx)
  rw [show ad4 91 = ad5 91 from (hE 91 (by decide)).symm] at hl
  rw [show ad4 91 = ad5 91 from (hE 91 (by decide)).symm]
  have hw : aW D dA ad5 adV (aGs 97 [(91, 7), (91, 8), (91, 9), (91, 10), (29, 6), (29, 7)] (zR (zR (zR (zR (zR (pI (pI (pI ι 91 0 (0 : Int32)) 91 1 (1 : Int32)) 91 2 (0 : Int32)) 92) 93) 94) 95) 96)) A s H locs := hw
  refine n_putF (U' := [(91, 8), (91, 9), (91, 10), (29, 6), (29, 7)]) (ty := .array .int) (o := 91) (q := 96) (T := TX2) (N := 11) (ty0 := tyX2) C hin wU_X2 tyX2_ok nmX2 hw (by decide) rfl (by decide) rfl 7 (by decide) rfl wF_X2_34 rfl rfl (by decide +kernel) rfl rfl rfl (uDel_1 (U := [(91, 7), (91, 8), (91, 9), (91, 10), (29, 6), (29, 7)])) (uDel_2 (U := [(91, 7), (91, 8), (91, 9), (91, 10), (29, 6), (29, 7)])) dX2_init_53 (fun H locs hw => ?_)
  have hw : aW D dA ad5 adV (aGs 97 [(91, 8), (91, 9), (91, 10), (29, 6), (29, 7)] (zR (zR (zR (zR (zR (pI (pI (pI ι 91 0 (0 : Int32)) 91 1 (1 : Int32)) 91 2 (0 : Int32)) 92) 93) 94) 95) 96)) A s H locs := hw
  refine lv_aload_n hx hb dX2_init_56 rfl (lv_at hl 0 rfl) ?_
  refine lv_bipush (v := (16 : Int32)) hx hb dX2_init_57 (by decide) ?_
  refine n_newa (U' := [(91, 8), (91, 9), (91, 10), (29, 6), (29, 7)]) (ty := .int) (t := 9) C hw (by decide) rfl (nOk.of (N := ([] : List (Nat × Nat))) (by decide +kernel) (by decide)) wA_9 rfl rfl (Or.inr (Or.inl ⟨rfl, rfl⟩)) (by decide) (by decide) (by decide) (Nat.le_of_ble_eq_true rfl) (Nat.le_of_ble_eq_true rfl) dX2_init_59 (fun ad6 H hE hw => ?_)
  have hE0 : ∀ x, x < 92 ∨ 1000000 ≤ x → ad6 x = ad x := fun x hx => (hE x (by omega)).trans (hE0 x hx)
  rw [show ad5 91 = ad6 91 from (hE 91 (by decide)).symm] at hl
  rw [show ad5 91 = ad6 91 from (hE 91 (by decide)).symm]
  have hw : aW D dA ad6 adV (aGs 98 [(91, 8), (91, 9), (91, 10), (29, 6), (29, 7)] (zR (zR (zR (zR (zR (zR (pI (pI (pI ι 91 0 (0 : Int32)) 91 1 (1 : Int32)) 91 2 (0 : Int32)) 92) 93) 94) 95) 96) 97)) A s H locs := hw
  refine n_putF (U' := [(91, 9), (91, 10), (29, 6), (29, 7)]) (ty := .array .int) (o := 91) (q := 97) (T := TX2) (N := 11) (ty0 := tyX2) C hin wU_X2 tyX2_ok nmX2 hw (by decide) rfl (by decide) rfl 8 (by decide) rfl wF_X2_37 rfl rfl (by decide +kernel) rfl rfl rfl (uDel_1 (U := [(91, 8), (91, 9), (91, 10), (29, 6), (29, 7)])) (uDel_2 (U := [(91, 8), (91, 9), (91, 10), (29, 6), (29, 7)])) dX2_init_61 (fun H locs hw => ?_)
  have hw : aW D dA ad6 adV (aGs 98 [(91, 9), (91, 10), (29, 6), (29, 7)] (zR (zR (zR (zR (zR (zR (pI (pI (pI ι 91 0 (0 : Int32)) 91 1 (1 : Int32)) 91 2 (0 : Int32)) 92) 93) 94) 95) 96) 97)) A s H locs := hw
  refine lv_aload_n hx hb dX2_init_64 rfl (lv_at hl 0 rfl) ?_
  refine lv_bipush (v := (16 : Int32)) hx hb dX2_init_65 (by decide) ?_
  refine n_newa (U' := [(91, 9), (91, 10), (29, 6), (29, 7)]) (ty := .int) (t := 9) C hw (by decide) rfl (nOk.of (N := ([] : List (Nat × Nat))) (by decide +kernel) (by decide)) wA_9 rfl rfl (Or.inr (Or.inl ⟨rfl, rfl⟩)) (by decide) (by decide) (by decide) (Nat.le_of_ble_eq_true rfl) (Nat.le_of_ble_eq_true rfl) dX2_init_67 (fun ad7 H hE hw => ?_)
  have hE0 : ∀ x, x < 92 ∨ 1000000 ≤ x → ad7 x = ad x := fun x hx => (hE x (by omega)).trans (hE0 x hx)
  rw [show ad6 91 = ad7 91 from (hE 91 (by decide)).symm] at hl
  rw [show ad6 91 = ad7 91 from (hE 91 (by decide)).symm]
  have hw : aW D dA ad7 adV (aGs 99 [(91, 9), (91, 10), (29, 6), (29, 7)] (zR (zR (zR (zR (zR (zR (zR (pI (pI (pI ι 91 0 (0 : Int32)) 91 1 (1 : Int32)) 91 2 (0 : Int32)) 92) 93) 94) 95) 96) 97) 98)) A s H locs := hw
  refine n_putF (U' := [(91, 10), (29, 6), (29, 7)]) (ty := .array .int) (o := 91) (q := 98) (T := TX2) (N := 11) (ty0 := tyX2) C hin wU_X2 tyX2_ok nmX2 hw (by decide) rfl (by decide) rfl 9 (by decide) rfl wF_X2_40 rfl rfl (by decide +kernel) rfl rfl rfl (uDel_1 (U := [(91, 9), (91, 10), (29, 6), (29, 7)])) (uDel_2 (U := [(91, 9), (91, 10), (29, 6), (29, 7)])) dX2_init_69 (fun H locs hw => ?_)
  have hw : aW D dA ad7 adV (aGs 99 [(91, 10), (29, 6), (29, 7)] (zR (zR (zR (zR (zR (zR (zR (pI (pI (pI ι 91 0 (0 : Int32)) 91 1 (1 : Int32)) 91 2 (0 : Int32)) 92) 93) 94) 95) 96) 97) 98)) A s H locs := hw
  refine lv_aload_n hx hb dX2_init_72 rfl (lv_at hl 0 rfl) ?_
  refine lv_bipush (v := (16 : Int32)) hx hb dX2_init_73 (by decide) ?_
  refine n_newa (U' := [(91, 10), (29, 6), (29, 7)]) (ty := .int) (t := 9) C hw (by decide) rfl (nOk.of (N := ([] : List (Nat × Nat))) (by decide +kernel) (by decide)) wA_9 rfl rfl (Or.inr (Or.inl ⟨rfl, rfl⟩)) (by decide) (by decide) (by decide) (Nat.le_of_ble_eq_true rfl) (Nat.le_of_ble_eq_true rfl) dX2_init_75 (fun ad8 H hE hw => ?_)
  have hE0 : ∀ x, x < 92 ∨ 1000000 ≤ x → ad8 x = ad x := fun x hx => (hE x (by omega)).trans (hE0 x hx)
  rw [show ad7 91 = ad8 91 from (hE 91 (by decide)).symm] at hl
  rw [show ad7 91 = ad8 91 from (hE 91 (by decide)).symm]
  have hw : aW D dA ad8 adV (aGs 100 [(91, 10), (29, 6), (29, 7)] (zR (zR (zR (zR (zR (zR (zR (zR (pI (pI (pI ι 91 0 (0 : Int32)) 91 1 (1 : Int32)) 91 2 (0 : Int32)) 92) 93) 94) 95) 96) 97) 98) 99)) A s H locs := hw
  refine n_putF (U' := [(29, 6), (29, 7)]) (ty := .array .int) (o := 91) (q := 99) (T := TX2) (N := 11) (ty0 := tyX2) C hin wU_X2 tyX2_ok nmX2 hw (by decide) rfl (by decide) rfl 10 (by decide) rfl wF_X2_43 rfl rfl (by decide +kernel) rfl rfl rfl (uDel_1 (U := [(91, 10), (29, 6), (29, 7)])) (uDel_2 (U := [(91, 10), (29, 6), (29, 7)])) dX2_init_77 (fun H locs hw => ?_)
  have hw : aW D dA ad8 adV (aGs 100 [(29, 6), (29, 7)] (zR (zR (zR (zR (zR (zR (zR (zR (pI (pI (pI ι 91 0 (0 : Int32)) 91 1 (1 : Int32)) 91 2 (0 : Int32)) 92) 93) 94) 95) 96) 97) 98) 99)) A s H locs := hw
  refine lv_aload_n hx hb dX2_init_80 rfl (lv_at hl 0 rfl) ?_
  obtain ⟨r81, hr81, hM⟩ := h_b hM
  refine a_callV (σ' := aGs 100 [(29, 6), (29, 7)] r81) (v := none) (o := 91) (As := fun ad => []) (rest := []) C hw (cs_X2_clear l (n9 := 100) (U9 := [(29, 6), (29, 7)]) ⟨lin91, by decide, noU (by decide)⟩ hr81) k_X2_clear wM_X2_46 ⟨⟨rfl, rfl⟩, Nat.le_of_ble_eq_true rfl, Nat.le_of_ble_eq_true rfl⟩ rfl (by decide) rfl rfl rfl hl rfl (by decide) dX2_init_81 ⟨Nat.le_of_ble_eq_true rfl, Nat.le_of_ble_eq_true rfl⟩ (fun H locs hw => ?_)
  cases h_e hM
  exact n_ret C hE0 hw dX2_init_84
set_option maxHeartbeats 400000 in
set_option maxRecDepth 100000 in
theorem ci_X2_init_100 (l : Launch) {ι res : iS} (hM : mi_X2 100 ι = some res) : aMn l yX2_init cX2_init 1 rm_X2_init (fun ad => [.ref (ad 100)]) 101 (aGs 101 [(100, 3), (100, 4), (100, 5), (100, 6), (100, 7), (100, 8), (100, 9), (100, 10), (29, 7)] ι) (aGs 109 [(29, 7)] res) 8 150 := by
  refine aMn.of (by decide) rfl (fun _ => Nat.le_of_ble_eq_true rfl) ?_
  intro p e s m args below meth c D dA ad adV A ls C hin hY hw hl
  have C : aX p m c cX2_init 1 s args aTs RX2 meth none := C
  have hx := C.1.1
  have hb := C.1.2.1
  have hown := C.1.2.2.2.1
  have hts := C.1.2.2.2.2
  have hl : lv_has ls 1 [(0, .ref (ad 100))] := hl
  replace hM : (Option.bind (m_X2_clear 100 (zR (zR (zR (zR (zR (zR (zR (zR (pI (pI (pI ι 100 0 (0 : Int32)) 100 1 (1 : Int32)) 100 2 (0 : Int32)) 101) 102) 103) 104) 105) 106) 107) 108)) fun r81 => some r81) = some res := hM
  refine lv_aload_n hx hb dX2_init_0 rfl (lv_at hl 0 rfl) ?_
  refine n_obj C wM_X2_3 hl dX2_init_1 (Nat.le_of_ble_eq_true rfl) (Nat.le_of_ble_eq_true rfl) ?_
  refine lv_aload_n hx hb dX2_init_4 rfl (lv_at hl 0 rfl) ?_
  refine lv_iconst (v := (0 : Int32)) hx hb dX2_init_5 (by decide) ?_
  refine a_puti (ty := .int) (σ := aGs 101 [(100, 3), (100, 4), (100, 5), (100, 6), (100, 7), (100, 8), (100, 9), (100, 10), (29, 7)] ι) (o := 100) (T := TX2) (N := 11) (ty0 := tyX2) C wU_X2 tyX2_ok nmX2 hw rfl (by decide) rfl 0 (by decide) rfl wF_X2_9 rfl (by decide +kernel) rfl rfl dX2_init_6 (fun H locs hw => ?_)
  have hw : aW D dA ad adV (aGs 101 [(100, 3), (100, 4), (100, 5), (100, 6), (100, 7), (100, 8), (100, 9), (100, 10), (29, 7)] (pI ι 100 0 (0 : Int32))) A s H locs := by rw [aGs_PI] at hw; exact hw
  refine lv_aload_n hx hb dX2_init_9 rfl (lv_at hl 0 rfl) ?_
  refine lv_iconst (v := (1 : Int32)) hx hb dX2_init_10 (by decide) ?_
  refine a_puti (ty := .int) (σ := aGs 101 [(100, 3), (100, 4), (100, 5), (100, 6), (100, 7), (100, 8), (100, 9), (100, 10), (29, 7)] (pI ι 100 0 (0 : Int32))) (o := 100) (T := TX2) (N := 11) (ty0 := tyX2) C wU_X2 tyX2_ok nmX2 hw rfl (by decide) rfl 1 (by decide) rfl wF_X2_15 rfl (by decide +kernel) rfl rfl dX2_init_11 (fun H locs hw => ?_)
  have hw : aW D dA ad adV (aGs 101 [(100, 3), (100, 4), (100, 5), (100, 6), (100, 7), (100, 8), (100, 9), (100, 10), (29, 7)] (pI (pI ι 100 0 (0 : Int32)) 100 1 (1 : Int32))) A s H locs := by rw [aGs_PI] at hw; exact hw
  refine lv_aload_n hx hb dX2_init_14 rfl (lv_at hl 0 rfl) ?_
  refine lv_iconst (v := (0 : Int32)) hx hb dX2_init_15 (by decide) ?_
  refine a_puti (ty := .int) (σ := aGs 101 [(100, 3), (100, 4), (100, 5), (100, 6), (100, 7), (100, 8), (100, 9), (100, 10), (29, 7)] (pI (pI ι 100 0 (0 : Int32)) 100 1 (1 : Int32))) (o := 100) (T := TX2) (N := 11) (ty0 := tyX2) C wU_X2 tyX2_ok nmX2 hw rfl (by decide) rfl 2 (by decide) rfl wF_X2_18 rfl (by decide +kernel) rfl rfl dX2_init_16 (fun H locs hw => ?_)
  have hw : aW D dA ad adV (aGs 101 [(100, 3), (100, 4), (100, 5), (100, 6), (100, 7), (100, 8), (100, 9), (100, 10), (29, 7)] (pI (pI (pI ι 100 0 (0 : Int32)) 100 1 (1 : Int32)) 100 2 (0 : Int32))) A s H locs := by rw [aGs_PI] at hw; exact hw
  refine lv_aload_n hx hb dX2_init_19 rfl (lv_at hl 0 rfl) ?_
  refine lv_bipush (v := (80 : Int32)) hx hb dX2_init_20 (by decide) ?_
  refine n_newa (U' := [(100, 3), (100, 4), (100, 5), (100, 6), (100, 7), (100, 8), (100, 9), (100, 10), (29, 7)]) (ty := .int) (t := 9) C hw (by decide) rfl (nOk.of (N := ([] : List (Nat × Nat))) (by decide +kernel) (by decide)) wA_9 rfl rfl (Or.inr (Or.inl ⟨rfl, rfl⟩)) (by decide) (by decide) (by decide) (Nat.le_of_ble_eq_true rfl) (Nat.le_of_ble_eq_true rfl) dX2_init_22 (fun ad1 H hE hw => ?_)
  have hE0 : ∀ x, x < 101 ∨ 1000000 ≤ x → ad1 x = ad x := fun x hx => (hE x (by omega)).trans (rfl)
  rw [show ad 100 = ad1 100 from (hE 100 (by decide)).symm] at hl
  rw [show ad 100 = ad1 100 from (hE 100 (by decide)).symm]
  have hw : aW D dA ad1 adV (aGs 102 [(100, 3), (100, 4), (100, 5), (100, 6), (100, 7), (100, 8), (100, 9), (100, 10), (29, 7)] (zR (pI (pI (pI ι 100 0 (0 : Int32)) 100 1 (1 : Int32)) 100 2 (0 : Int32)) 101)) A s H locs := hw
  refine n_putF (U' := [(100, 4), (100, 5), (100, 6), (100, 7), (100, 8), (100, 9), (100, 10), (29, 7)]) (ty := .array .int) (o := 100) (q := 101) (T := TX2) (N := 11) (ty0 := tyX2) C hin wU_X2 tyX2_ok nmX2 hw (by decide) rfl (by decide) rfl 3 (by decide) rfl wF_X2_21 rfl rfl (by decide +kernel) rfl rfl rfl (uDel_1 (U := [(100, 3), (100, 4), (100, 5), (100, 6), (100, 7), (100, 8), (100, 9), (100, 10), (29, 7)])) (uDel_2 (U := [(100, 3), (100, 4), (100, 5), (100, 6), (100, 7), (100, 8), (100, 9), (100, 10), (29, 7)])) dX2_init_24 (fun H locs hw => ?_)
  have hw : aW D dA ad1 adV (aGs 102 [(100, 4), (100, 5), (100, 6), (100, 7), (100, 8), (100, 9), (100, 10), (29, 7)] (zR (pI (pI (pI ι 100 0 (0 : Int32)) 100 1 (1 : Int32)) 100 2 (0 : Int32)) 101)) A s H locs := hw
  refine lv_aload_n hx hb dX2_init_27 rfl (lv_at hl 0 rfl) ?_
  refine lv_iconst (v := (5 : Int32)) hx hb dX2_init_28 (by decide) ?_
  refine n_newa (U' := [(100, 4), (100, 5), (100, 6), (100, 7), (100, 8), (100, 9), (100, 10), (29, 7)]) (ty := .int) (t := 9) C hw (by decide) rfl (nOk.of (N := ([] : List (Nat × Nat))) (by decide +kernel) (by decide)) wA_9 rfl rfl (Or.inr (Or.inl ⟨rfl, rfl⟩)) (by decide) (by decide) (by decide) (Nat.le_of_ble_eq_true rfl) (Nat.le_of_ble_eq_true rfl) dX2_init_29 (fun ad2 H hE hw => ?_)
  have hE0 : ∀ x, x < 101 ∨ 1000000 ≤ x → ad2 x = ad x := fun x hx => (hE x (by omega)).trans (hE0 x hx)
  rw [show ad1 100 = ad2 100 from (hE 100 (by decide)).symm] at hl
  rw [show ad1 100 = ad2 100 from (hE 100 (by decide)).symm]
  have hw : aW D dA ad2 adV (aGs 103 [(100, 4), (100, 5), (100, 6), (100, 7), (100, 8), (100, 9), (100, 10), (29, 7)] (zR (zR (pI (pI (pI ι 100 0 (0 : Int32)) 100 1 (1 : Int32)) 100 2 (0 : Int32)) 101) 102)) A s H locs := hw
  refine n_putF (U' := [(100, 5), (100, 6), (100, 7), (100, 8), (100, 9), (100, 10), (29, 7)]) (ty := .array .int) (o := 100) (q := 102) (T := TX2) (N := 11) (ty0 := tyX2) C hin wU_X2 tyX2_ok nmX2 hw (by decide) rfl (by decide) rfl 4 (by decide) rfl wF_X2_25 rfl rfl (by decide +kernel) rfl rfl rfl (uDel_1 (U := [(100, 4), (100, 5), (100, 6), (100, 7), (100, 8), (100, 9), (100, 10), (29, 7)])) (uDel_2 (U := [(100, 4), (100, 5), (100, 6), (100, 7), (100, 8), (100, 9), (100, 10), (29, 7)])) dX2_init_31 (fun H locs hw => ?_)
  have hw : aW D dA ad2 adV (aGs 103 [(100, 5), (100, 6), (100, 7), (100, 8), (100, 9), (100, 10), (29, 7)] (zR (zR (pI (pI (pI ι 100 0 (0 : Int32)) 100 1 (1 : Int32)) 100 2 (0 : Int32)) 101) 102)) A s H locs := hw
  refine lv_aload_n hx hb dX2_init_34 rfl (lv_at hl 0 rfl) ?_
  refine lv_iconst (v := (5 : Int32)) hx hb dX2_init_35 (by decide) ?_
  refine n_newa (U' := [(100, 5), (100, 6), (100, 7), (100, 8), (100, 9), (100, 10), (29, 7)]) (ty := .int) (t := 9) C hw (by decide) rfl (nOk.of (N := ([] : List (Nat × Nat))) (by decide +kernel) (by decide)) wA_9 rfl rfl (Or.inr (Or.inl ⟨rfl, rfl⟩)) (by decide) (by decide) (by decide) (Nat.le_of_ble_eq_true rfl) (Nat.le_of_ble_eq_true rfl) dX2_init_36 (fun ad3 H hE hw => ?_)
  have hE0 : ∀ x, x < 101 ∨ 1000000 ≤ x → ad3 x = ad x := fun x hx => (hE x (by omega)).trans (hE0 x hx)
  rw [show ad2 100 = ad3 100 from (hE 100 (by decide)).symm] at hl
  rw [show ad2 100 = ad3 100 from (hE 100 (by decide)).symm]
  have hw : aW D dA ad3 adV (aGs 104 [(100, 5), (100, 6), (100, 7), (100, 8), (100, 9), (100, 10), (29, 7)] (zR (zR (zR (pI (pI (pI ι 100 0 (0 : Int32)) 100 1 (1 : Int32)) 100 2 (0 : Int32)) 101) 102) 103)) A s H locs := hw
  refine n_putF (U' := [(100, 6), (100, 7), (100, 8), (100, 9), (100, 10), (29, 7)]) (ty := .array .int) (o := 100) (q := 103) (T := TX2) (N := 11) (ty0 := tyX2) C hin wU_X2 tyX2_ok nmX2 hw (by decide) rfl (by decide) rfl 5 (by decide) rfl wF_X2_28 rfl rfl (by decide +kernel) rfl rfl rfl (uDel_1 (U := [(100, 5), (100, 6), (100, 7), (100, 8), (100, 9), (100, 10), (29, 7)])) (uDel_2 (U := [(100, 5), (100, 6), (100, 7), (100, 8), (100, 9), (100, 10), (29, 7)])) dX2_init_38 (fun H locs hw => ?_)
  have hw : aW D dA ad3 adV (aGs 104 [(100, 6), (100, 7), (100, 8), (100, 9), (100, 10), (29, 7)] (zR (zR (zR (pI (pI (pI ι 100 0 (0 : Int32)) 100 1 (1 : Int32)) 100 2 (0 : Int32)) 101) 102) 103)) A s H locs := hw
  refine lv_aload_n hx hb dX2_init_41 rfl (lv_at hl 0 rfl) ?_
  refine lv_iconst (v := (4 : Int32)) hx hb dX2_init_42 (by decide) ?_
  refine n_newa (U' := [(100, 6), (100, 7), (100, 8), (100, 9), (100, 10), (29, 7)]) (ty := .int) (t := 9) C hw (by decide) rfl (nOk.of (N := ([] : List (Nat × Nat))) (by decide +kernel) (by decide)) wA_9 rfl rfl (Or.inr (Or.inl ⟨rfl, rfl⟩)) (by decide) (by decide) (by decide) (Nat.le_of_ble_eq_true rfl) (Nat.le_of_ble_eq_true rfl) dX2_init_43 (fun ad4 H hE hw => ?_)
  have hE0 : ∀ x, x < 101 ∨ 1000000 ≤ x → ad4 x = ad x := fun x hx => (hE x (by omega)).trans (hE0 x hx)
  rw [show ad3 100 = ad4 100 from (hE 100 (by decide)).symm] at hl
  rw [show ad3 100 = ad4 100 from (hE 100 (by decide)).symm]
  have hw : aW D dA ad4 adV (aGs 105 [(100, 6), (100, 7), (100, 8), (100, 9), (100, 10), (29, 7)] (zR (zR (zR (zR (pI (pI (pI ι 100 0 (0 : Int32)) 100 1 (1 : Int32)) 100 2 (0 : Int32)) 101) 102) 103) 104)) A s H locs := hw
  refine n_putF (U' := [(100, 7), (100, 8), (100, 9), (100, 10), (29, 7)]) (ty := .array .int) (o := 100) (q := 104) (T := TX2) (N := 11) (ty0 := tyX2) C hin wU_X2 tyX2_ok nmX2 hw (by decide) rfl (by decide) rfl 6 (by decide) rfl wF_X2_31 rfl rfl (by decide +kernel) rfl rfl rfl (uDel_1 (U := [(100, 6), (100, 7), (100, 8), (100, 9), (100, 10), (29, 7)])) (uDel_2 (U := [(100, 6), (100, 7), (100, 8), (100, 9), (100, 10), (29, 7)])) dX2_init_45 (fun H locs hw => ?_)
  have hw : aW D dA ad4 adV (aGs 105 [(100, 7), (100, 8), (100, 9), (100, 10), (29, 7)] (zR (zR (zR (zR (pI (pI (pI ι 100 0 (0 : Int32)) 100 1 (1 : Int32)) 100 2 (0 : Int32)) 101) 102) 103) 104)) A s H locs := hw
  refine lv_aload_n hx hb dX2_init_48 rfl (lv_at hl 0 rfl) ?_
  refine lv_bipush (v := (8 : Int32)) hx hb dX2_init_49 (by decide) ?_
  refine n_newa (U' := [(100, 7), (100, 8), (100, 9), (100, 10), (29, 7)]) (ty := .int) (t := 9) C hw (by decide) rfl (nOk.of (N := ([] : List (Nat × Nat))) (by decide +kernel) (by decide)) wA_9 rfl rfl (Or.inr (Or.inl ⟨rfl, rfl⟩)) (by decide) (by decide) (by decide) (Nat.le_of_ble_eq_true rfl) (Nat.le_of_ble_eq_true rfl) dX2_init_51 (fun ad5 H hE hw => ?_)
  have hE0 : ∀ x, x < 101 ∨ 1000000 ≤ x → ad5 x = ad x := fun x hx => (hE x (by omega)).trans (hE0 x hx)
  rw [show ad4 100 = ad5 100 from (hE 100 (by decide)).symm] at hl
  rw [show ad4 100 = ad5 100 from (hE 100 (by decide)).symm]
  have hw : aW D dA ad5 adV (aGs 106 [(100, 7), (100, 8), (100, 9), (100, 10), (29, 7)] (zR (zR (zR (zR (zR (pI (pI (pI ι 100 0 (0 : Int32)) 100 1 (1 : Int32)) 100 2 (0 : Int32)) 101) 102) 103) 104) 105)) A s H locs := hw
  refine n_putF (U' := [(100, 8), (100, 9), (100, 10), (29, 7)]) (ty := .array .int) (o := 100) (q := 105) (T := TX2) (N := 11) (ty0 := tyX2) C hin wU_X2 tyX2_ok nmX2 hw (by decide) rfl (by decide) rfl 7 (by decide) rfl wF_X2_34 rfl rfl (by decide +kernel) rfl rfl rfl (uDel_1 (U := [(100, 7), (100, 8), (100, 9), (100, 10), (29, 7)])) (uDel_2 (U := [(100, 7), (100, 8), (100, 9), (100, 10), (29, 7)])) dX2_init_53 (fun H locs hw => ?_)
  have hw : aW D dA ad5 adV (aGs 106 [(100, 8), (100, 9), (100, 10), (29, 7)] (zR (zR (zR (zR (zR (pI (pI (pI ι 100 0 (0 : Int32)) 100 1 (1 : Int32)) 100 2 (0 : Int32)) 101) 102) 103) 104) 105)) A s H locs := hw
  refine lv_aload_n hx hb dX2_init_56 rfl (lv_at hl 0 rfl) ?_
  refine lv_bipush (v := (16 : Int32)) hx hb dX2_init_57 (by decide) ?_
  refine n_newa (U' := [(100, 8), (100, 9), (100, 10), (29, 7)]) (ty := .int) (t := 9) C hw (by decide) rfl (nOk.of (N := ([] : List (Nat × Nat))) (by decide +kernel) (by decide)) wA_9 rfl rfl (Or.inr (Or.inl ⟨rfl, rfl⟩)) (by decide) (by decide) (by decide) (Nat.le_of_ble_eq_true rfl) (Nat.le_of_ble_eq_true rfl) dX2_init_59 (fun ad6 H hE hw => ?_)
  have hE0 : ∀ x, x < 101 ∨ 1000000 ≤ x → ad6 x = ad x := fun x hx => (hE x (by omega)).trans (hE0 x hx)
  rw [show ad5 100 = ad6 100 from (hE 100 (by decide)).symm] at hl
  rw [show ad5 100 = ad6 100 from (hE 100 (by decide)).symm]
  have hw : aW D dA ad6 adV (aGs 107 [(100, 8), (100, 9), (100, 10), (29, 7)] (zR (zR (zR (zR (zR (zR (pI (pI (pI ι 100 0 (0 : Int32)) 100 1 (1 : Int32)) 100 2 (0 : Int32)) 101) 102) 103) 104) 105) 106)) A s H locs := hw
  refine n_putF (U' := [(100, 9), (100, 10), (29, 7)]) (ty := .array .int) (o := 100) (q := 106) (T := TX2) (N := 11) (ty0 := tyX2) C hin wU_X2 tyX2_ok nmX2 hw (by decide) rfl (by decide) rfl 8 (by decide) rfl wF_X2_37 rfl rfl (by decide +kernel) rfl rfl rfl (uDel_1 (U := [(100, 8), (100, 9), (100, 10), (29, 7)])) (uDel_2 (U := [(100, 8), (100, 9), (100, 10), (29, 7)])) dX2_init_61 (fun H locs hw => ?_)
  have hw : aW D dA ad6 adV (aGs 107 [(100, 9), (100, 10), (29, 7)] (zR (zR (zR (zR (zR (zR (pI (pI (pI ι 100 0 (0 : Int32)) 100 1 (1 : Int32)) 100 2 (0 : Int32)) 101) 102) 103) 104) 105) 106)) A s H locs := hw
  refine lv_aload_n hx hb dX2_init_64 rfl (lv_at hl 0 rfl) ?_
  refine lv_bipush (v := (16 : Int32)) hx hb dX2_init_65 (by decide) ?_
  refine n_newa (U' := [(100, 9), (100, 10), (29, 7)]) (ty := .int) (t := 9) C hw (by decide) rfl (nOk.of (N := ([] : List (Nat × Nat))) (by decide +kernel) (by decide)) wA_9 rfl rfl (Or.inr (Or.inl ⟨rfl, rfl⟩)) (by decide) (by decide) (by decide) (Nat.le_of_ble_eq_true rfl) (Nat.le_of_ble_eq_true rfl) dX2_init_67 (fun ad7 H hE hw => ?_)
  have hE0 : ∀ x, x < 101 ∨ 1000000 ≤ x → ad7 x = ad x := fun x hx => (hE x (by omega)).trans (hE0 x hx)
  rw [show ad6 100 = ad7 100 from (hE 100 (by decide)).symm] at hl
  rw [show ad6 100 = ad7 100 from (hE 100 (by decide)).symm]
  have hw : aW D dA ad7 adV (aGs 108 [(100, 9), (100, 10), (29, 7)] (zR (zR (zR (zR (zR (zR (zR (pI (pI (pI ι 100 0 (0 : Int32)) 100 1 (1 : Int32)) 100 2 (0 : Int32)) 101) 102) 103) 104) 105) 106) 107)) A s H locs := hw
  refine n_putF (U' := [(100, 10), (29, 7)]) (ty := .array .int) (o := 100) (q := 107) (T := TX2) (N := 11) (ty0 := tyX2) C hin wU_X2 tyX2_ok nmX2 hw (by decide) rfl (by decide) rfl 9 (by decide) rfl wF_X2_40 rfl rfl (by decide +kernel) rfl rfl rfl (uDel_1 (U := [(100, 9), (100, 10), (29, 7)])) (uDel_2 (U := [(100, 9), (100, 10), (29, 7)])) dX2_init_69 (fun H locs hw => ?_)
  have hw : aW D dA ad7 adV (aGs 108 [(100, 10), (29, 7)] (zR (zR (zR (zR (zR (zR (zR (pI (pI (pI ι 100 0 (0 : Int32)) 100 1 (1 : Int32)) 100 2 (0 : Int32)) 101) 102) 103) 104) 105) 106) 107)) A s H locs := hw
  refine lv_aload_n hx hb dX2_init_72 rfl (lv_at hl 0 rfl) ?_
  refine lv_bipush (v := (16 : Int32)) hx hb dX2_init_73 (by decide) ?_
  refine n_newa (U' := [(100, 10), (29, 7)]) (ty := .int) (t := 9) C hw (by decide) rfl (nOk.of (N := ([] : List (Nat × Nat))) (by decide +kernel) (by decide)) wA_9 rfl rfl (Or.inr (Or.inl ⟨rfl, rfl⟩)) (by decide) (by decide) (by decide) (Nat.le_of_ble_eq_true rfl) (Nat.le_of_ble_eq_true rfl) dX2_init_75 (fun ad8 H hE hw => ?_)
  have hE0 : ∀ x, x < 101 ∨ 1000000 ≤ x → ad8 x = ad x := fun x hx => (hE x (by omega)).trans (hE0 x hx)
  rw [show ad7 100 = ad8 100 from (hE 100 (by decide)).symm] at hl
  rw [show ad7 100 = ad8 100 from (hE 100 (by decide)).symm]
  have hw : aW D dA ad8 adV (aGs 109 [(100, 10), (29, 7)] (zR (zR (zR (zR (zR (zR (zR (zR (pI (pI (pI ι 100 0 (0 : Int32)) 100 1 (1 : Int32)) 100 2 (0 : Int32)) 101) 102) 103) 104) 105) 106) 107) 108)) A s H locs := hw
  refine n_putF (U' := [(29, 7)]) (ty := .array .int) (o := 100) (q := 108) (T := TX2) (N := 11) (ty0 := tyX2) C hin wU_X2 tyX2_ok nmX2 hw (by decide) rfl (by decide) rfl 10 (by decide) rfl wF_X2_43 rfl rfl (by decide +kernel) rfl rfl rfl (uDel_1 (U := [(100, 10), (29, 7)])) (uDel_2 (U := [(100, 10), (29, 7)])) dX2_init_77 (fun H locs hw => ?_)
  have hw : aW D dA ad8 adV (aGs 109 [(29, 7)] (zR (zR (zR (zR (zR (zR (zR (zR (pI (pI (pI ι 100 0 (0 : Int32)) 100 1 (1 : Int32)) 100 2 (0 : Int32)) 101) 102) 103) 104) 105) 106) 107) 108)) A s H locs := hw
  refine lv_aload_n hx hb dX2_init_80 rfl (lv_at hl 0 rfl) ?_
  obtain ⟨r81, hr81, hM⟩ := h_b hM
  refine a_callV (σ' := aGs 109 [(29, 7)] r81) (v := none) (o := 100) (As := fun ad => []) (rest := []) C hw (cs_X2_clear l (n9 := 109) (U9 := [(29, 7)]) ⟨lin100, by decide, noU (by decide)⟩ hr81) k_X2_clear wM_X2_46 ⟨⟨rfl, rfl⟩, Nat.le_of_ble_eq_true rfl, Nat.le_of_ble_eq_true rfl⟩ rfl (by decide) rfl rfl rfl hl rfl (by decide) dX2_init_81 ⟨Nat.le_of_ble_eq_true rfl, Nat.le_of_ble_eq_true rfl⟩ (fun H locs hw => ?_)
  cases h_e hM
  exact n_ret C hE0 hw dX2_init_84
def mi_X6 (ι : iS) : Option iS := Option.bind (mi_X2 2 (zR (pI (zR ι 1) 0 1 (0 : Int32)) 2)) fun r23_2 => Option.bind (mi_X3 (zR r23_2 11)) fun r34_11 => Option.bind (mi_X5 31 (zR (zR (pI (pI (zR r34_11 29) 0 5 (0 : Int32)) 0 6 (-1 : Int32)) 30) 31)) fun r71_31 => Option.bind (mi_X5 33 (zR r71_31 33)) fun r82_33 => Option.bind (mi_X0 (zR r82_33 35)) fun r93_35 => Option.bind (mi_X2 37 (zR r93_35 37)) fun r119_37 => Option.bind (mi_X2 46 (zR r119_37 46)) fun r119_46 => Option.bind (mi_X2 55 (zR r119_46 55)) fun r119_55 => Option.bind (mi_X2 64 (zR r119_55 64)) fun r119_64 => Option.bind (mi_X2 73 (zR r119_64 73)) fun r119_73 => Option.bind (mi_X2 82 (zR r119_73 82)) fun r119_82 => Option.bind (mi_X2 91 (zR r119_82 91)) fun r119_91 => Option.bind (mi_X2 100 (zR r119_91 100)) fun r119_100 => Option.bind (m_X1_rate 2 (pI (pI (pI (pI r119_100 2 0 (1 : Int32)) 3 0 (5 : Int32)) 4 0 (5 : Int32)) 5 0 (3 : Int32))) fun r178 => Option.bind (m_X2_showFirst 2 r178) fun r185 => some r185
def rm_X6_init : Room := { frames := 6, cells := 108, slots := 4204, locals := 149 }
set_option maxHeartbeats 400000 in
set_option maxRecDepth 100000 in
theorem ci_X6_init_0 (l : Launch) {ι res : iS} (hM : mi_X6 ι = some res) : aMn l yX6_init cX6_init 2 rm_X6_init (fun ad => [.ref (ad 0)]) 1 (aGs 1 [(0, 0), (0, 2), (0, 3), (0, 4), (0, 7), (0, 8), (0, 9), (0, 10)] ι) (aGs 109 ([] : List (Nat × Nat)) res) 108 4204 := by
  refine aMn.of (by decide) rfl (fun _ => Nat.le_of_ble_eq_true rfl) ?_
  intro p e s m args below meth c D dA ad adV A ls C hin hY hw hl
  have C : aX p m c cX6_init 2 s args aTs RX6 meth none := C
  have hx := C.1.1
  have hb := C.1.2.1
  have hown := C.1.2.2.2.1
  have hts := C.1.2.2.2.2
  have hl : lv_has ls 2 [(0, .ref (ad 0))] := hl
  replace hM : (Option.bind (mi_X2 2 (zR (pI (zR ι 1) 0 1 (0 : Int32)) 2)) fun r23_2 => Option.bind (mi_X3 (zR r23_2 11)) fun r34_11 => Option.bind (mi_X5 31 (zR (zR (pI (pI (zR r34_11 29) 0 5 (0 : Int32)) 0 6 (-1 : Int32)) 30) 31)) fun r71_31 => Option.bind (mi_X5 33 (zR r71_31 33)) fun r82_33 => Option.bind (mi_X0 (zR r82_33 35)) fun r93_35 => Option.bind (mi_X2 37 (zR r93_35 37)) fun r119_37 => Option.bind (mi_X2 46 (zR r119_37 46)) fun r119_46 => Option.bind (mi_X2 55 (zR r119_46 55)) fun r119_55 => Option.bind (mi_X2 64 (zR r119_55 64)) fun r119_64 => Option.bind (mi_X2 73 (zR r119_64 73)) fun r119_73 => Option.bind (mi_X2 82 (zR r119_73 82)) fun r119_82 => Option.bind (mi_X2 91 (zR r119_82 91)) fun r119_91 => Option.bind (mi_X2 100 (zR r119_91 100)) fun r119_100 => Option.bind (m_X1_rate 2 (pI (pI (pI (pI r119_100 2 0 (1 : Int32)) 3 0 (5 : Int32)) 4 0 (5 : Int32)) 5 0 (3 : Int32))) fun r178 => Option.bind (m_X2_showFirst 2 r178) fun r185 => some r185) = some res := hM
  refine lv_aload_n hx hb dX6_init_0 rfl (lv_at hl 0 rfl) ?_
  refine n_obj C wM_X6_1 hl dX6_init_1 (Nat.le_of_ble_eq_true rfl) (Nat.le_of_ble_eq_true rfl) ?_
  refine lv_aload_n hx hb dX6_init_4 rfl (lv_at hl 0 rfl) ?_
  refine lv_sipush (v := (500 : Int32)) hx hb dX6_init_5 (by decide) ?_
  refine n_newa (U' := [(0, 0), (0, 2), (0, 3), (0, 4), (0, 7), (0, 8), (0, 9), (0, 10)]) (ty := .byte) (t := 8) C hw (by decide) rfl (nOk.of (N := ([] : List (Nat × Nat))) (by decide +kernel) (by decide)) wA_8 rfl rfl (Or.inl ⟨rfl, rfl⟩) (by decide) (by decide) (by decide) (Nat.le_of_ble_eq_true rfl) (Nat.le_of_ble_eq_true rfl) dX6_init_8 (fun ad1 H hE hw => ?_)
  have hE0 : ∀ x, x < 1 ∨ 1000000 ≤ x → ad1 x = ad x := fun x hx => (hE x (by omega)).trans (rfl)
  rw [show ad 0 = ad1 0 from (hE 0 (by decide)).symm] at hl
  rw [show ad 0 = ad1 0 from (hE 0 (by decide)).symm]
  have hw : aW D dA ad1 adV (aGs 2 [(0, 0), (0, 2), (0, 3), (0, 4), (0, 7), (0, 8), (0, 9), (0, 10)] (zR ι 1)) A s H [] := hw
  refine n_putF (U' := [(0, 2), (0, 3), (0, 4), (0, 7), (0, 8), (0, 9), (0, 10)]) (ty := .array .byte) (o := 0) (q := 1) (T := TX6) (N := 11) (ty0 := tyX6) C hin wU_X6 tyX6_ok nmX6 hw (by decide) rfl (by decide) rfl 0 (by decide) rfl wF_X6_9 rfl rfl (by decide +kernel) rfl rfl rfl (uDel_1 (U := [(0, 0), (0, 2), (0, 3), (0, 4), (0, 7), (0, 8), (0, 9), (0, 10)])) (uDel_2 (U := [(0, 0), (0, 2), (0, 3), (0, 4), (0, 7), (0, 8), (0, 9), (0, 10)])) dX6_init_10 (fun H locs hw => ?_)
  have hw : aW D dA ad1 adV (aGs 2 [(0, 2), (0, 3), (0, 4), (0, 7), (0, 8), (0, 9), (0, 10)] (zR ι 1)) A s H locs := hw
  refine lv_aload_n hx hb dX6_init_13 rfl (lv_at hl 0 rfl) ?_
  refine lv_iconst (v := (0 : Int32)) hx hb dX6_init_14 (by decide) ?_
  refine a_puti (ty := .int) (σ := aGs 2 [(0, 2), (0, 3), (0, 4), (0, 7), (0, 8), (0, 9), (0, 10)] (zR ι 1)) (o := 0) (T := TX6) (N := 11) (ty0 := tyX6) C wU_X6 tyX6_ok nmX6 hw rfl (by decide) rfl 1 (by decide) rfl wF_X6_13 rfl (by decide +kernel) rfl rfl dX6_init_15 (fun H locs hw => ?_)
  have hw : aW D dA ad1 adV (aGs 2 [(0, 2), (0, 3), (0, 4), (0, 7), (0, 8), (0, 9), (0, 10)] (pI (zR ι 1) 0 1 (0 : Int32))) A s H locs := by rw [aGs_PI] at hw; exact hw
  refine lv_aload_n hx hb dX6_init_18 rfl (lv_at hl 0 rfl) ?_
  refine n_new (U' := [(2, 3), (2, 4), (2, 5), (2, 6), (2, 7), (2, 8), (2, 9), (2, 10), (0, 2), (0, 3), (0, 4), (0, 7), (0, 8), (0, 9), (0, 10)]) (ci := 2) (T := TX2) (N := 11) (ty0 := tyX2) C wU_X2 tyX2_ok hw (by decide) rfl (by decide) rfl (nOk.of (N := [(2, 3), (2, 4), (2, 5), (2, 6), (2, 7), (2, 8), (2, 9), (2, 10)]) (by decide +kernel) (by decide)) (by decide) dv_X2 wK_X6_17 wN_X2 wZ_X2 (Nat.le_of_ble_eq_true rfl) (Nat.le_of_ble_eq_true rfl) dX6_init_19 (fun ad2 H hE hw => ?_)
  have hE0 : ∀ x, x < 1 ∨ 1000000 ≤ x → ad2 x = ad x := fun x hx => (hE x (by omega)).trans (hE0 x hx)
  rw [show ad1 0 = ad2 0 from (hE 0 (by decide)).symm] at hl
  rw [show ad1 0 = ad2 0 from (hE 0 (by decide)).symm]
  have hw : aW D dA ad2 adV (aGs 3 [(2, 3), (2, 4), (2, 5), (2, 6), (2, 7), (2, 8), (2, 9), (2, 10), (0, 2), (0, 3), (0, 4), (0, 7), (0, 8), (0, 9), (0, 10)] (zR (pI (zR ι 1) 0 1 (0 : Int32)) 2)) A s H locs := hw
  refine lv_dup hx hb dX6_init_22 rfl ?_
  obtain ⟨r23_2, hr23_2, hM⟩ := h_b hM
  refine n_callI (σ' := aGs 11 [(0, 2), (0, 3), (0, 4), (0, 7), (0, 8), (0, 9), (0, 10)] r23_2) (o := 2) (rest := [.ref (ad2 2), .ref (ad2 0)]) C hY hw (ci_X2_init_2 l hr23_2) ki_X2_init wM_X6_19 ⟨⟨rfl, rfl⟩, Nat.le_of_ble_eq_true rfl, Nat.le_of_ble_eq_true rfl⟩ hl (Nat.le_of_ble_eq_true rfl) dX6_init_23 ⟨Nat.le_of_ble_eq_true rfl, Nat.le_of_ble_eq_true rfl⟩ (fun ad3 H locs hE hw => ?_)
  have hE0 : ∀ x, x < 1 ∨ 1000000 ≤ x → ad3 x = ad x := fun x hx => (hE x (by omega)).trans (hE0 x hx)
  rw [show ad2 0 = ad3 0 from (hE 0 (by decide)).symm] at hl
  rw [show ad2 0 = ad3 0 from (hE 0 (by decide)).symm]
  rw [show ad2 2 = ad3 2 from (hE 2 (by decide)).symm]
  refine n_putF (U' := [(0, 3), (0, 4), (0, 7), (0, 8), (0, 9), (0, 10)]) (ty := .object "LineupDesk$Lineup") (o := 0) (q := 2) (T := TX6) (N := 11) (ty0 := tyX6) C hin wU_X6 tyX6_ok nmX6 hw (by decide) rfl (by decide) rfl 2 (by decide) rfl wF_X6_20 rfl rfl (by decide +kernel) rfl rfl rfl (uDel_1 (U := [(0, 2), (0, 3), (0, 4), (0, 7), (0, 8), (0, 9), (0, 10)])) (uDel_2 (U := [(0, 2), (0, 3), (0, 4), (0, 7), (0, 8), (0, 9), (0, 10)])) dX6_init_26 (fun H locs hw => ?_)
  have hw : aW D dA ad3 adV (aGs 11 [(0, 3), (0, 4), (0, 7), (0, 8), (0, 9), (0, 10)] r23_2) A s H locs := hw
  refine lv_aload_n hx hb dX6_init_29 rfl (lv_at hl 0 rfl) ?_
  refine n_new (U' := [(11, 0), (11, 1), (11, 3), (0, 3), (0, 4), (0, 7), (0, 8), (0, 9), (0, 10)]) (ci := 3) (T := TX3) (N := 7) (ty0 := tyX3) C wU_X3 tyX3_ok hw (by decide) rfl (by decide) rfl (nOk.of (N := [(11, 0), (11, 1), (11, 3)]) (by decide +kernel) (by decide)) (by decide) dv_X3 wK_X6_24 wN_X3 wZ_X3 (Nat.le_of_ble_eq_true rfl) (Nat.le_of_ble_eq_true rfl) dX6_init_30 (fun ad4 H hE hw => ?_)
  have hE0 : ∀ x, x < 1 ∨ 1000000 ≤ x → ad4 x = ad x := fun x hx => (hE x (by omega)).trans (hE0 x hx)
  rw [show ad3 0 = ad4 0 from (hE 0 (by decide)).symm] at hl
  rw [show ad3 0 = ad4 0 from (hE 0 (by decide)).symm]
  have hw : aW D dA ad4 adV (aGs 12 [(11, 0), (11, 1), (11, 3), (0, 3), (0, 4), (0, 7), (0, 8), (0, 9), (0, 10)] (zR r23_2 11)) A s H locs := hw
  refine lv_dup hx hb dX6_init_33 rfl ?_
  obtain ⟨r34_11, hr34_11, hM⟩ := h_b hM
  refine n_callIN (σ' := aGs 29 [(0, 3), (0, 4), (0, 7), (0, 8), (0, 9), (0, 10)] r34_11) (o := 11) (rest := [.ref (ad4 11), .ref (ad4 0)]) C hY hw (ci_X3_init_11 l hr34_11) ki_X3_init (host := "LineupDesk") (by decide) ⟨⟨rfl, rfl⟩, Nat.le_of_ble_eq_true rfl, Nat.le_of_ble_eq_true rfl⟩ hl (Nat.le_of_ble_eq_true rfl) dX6_init_34 ⟨Nat.le_of_ble_eq_true rfl, Nat.le_of_ble_eq_true rfl⟩ (fun ad5 H locs hE hw => ?_)
  have hE0 : ∀ x, x < 1 ∨ 1000000 ≤ x → ad5 x = ad x := fun x hx => (hE x (by omega)).trans (hE0 x hx)
  rw [show ad4 0 = ad5 0 from (hE 0 (by decide)).symm] at hl
  rw [show ad4 0 = ad5 0 from (hE 0 (by decide)).symm]
  rw [show ad4 11 = ad5 11 from (hE 11 (by decide)).symm]
  refine n_putF (U' := [(0, 4), (0, 7), (0, 8), (0, 9), (0, 10)]) (ty := .object "LineupDesk$Reader") (o := 0) (q := 11) (T := TX6) (N := 11) (ty0 := tyX6) C hin wU_X6 tyX6_ok nmX6 hw (by decide) rfl (by decide) rfl 3 (by decide) rfl wF_X6_27 rfl rfl (by decide +kernel) rfl rfl rfl (uDel_1 (U := [(0, 3), (0, 4), (0, 7), (0, 8), (0, 9), (0, 10)])) (uDel_2 (U := [(0, 3), (0, 4), (0, 7), (0, 8), (0, 9), (0, 10)])) dX6_init_37 (fun H locs hw => ?_)
  have hw : aW D dA ad5 adV (aGs 29 [(0, 4), (0, 7), (0, 8), (0, 9), (0, 10)] r34_11) A s H locs := hw
  refine lv_aload_n hx hb dX6_init_40 rfl (lv_at hl 0 rfl) ?_
  refine lv_bipush (v := (8 : Int32)) hx hb dX6_init_41 (by decide) ?_
  refine n_anew (U' := [(29, 0), (29, 1), (29, 2), (29, 3), (29, 4), (29, 5), (29, 6), (29, 7), (0, 4), (0, 7), (0, 8), (0, 9), (0, 10)]) C hw (by decide) rfl (nOk.of (N := [(29, 0), (29, 1), (29, 2), (29, 3), (29, 4), (29, 5), (29, 6), (29, 7)]) (by decide +kernel) (by decide)) (hUn29 (by decide)) wK_X6_17 hY.1 (by decide) (by decide) (by decide) (Nat.le_of_ble_eq_true rfl) (Nat.le_of_ble_eq_true rfl) dX6_init_43 (fun ad6 H hE hw => ?_)
  have hE0 : ∀ x, x < 1 ∨ 1000000 ≤ x → ad6 x = ad x := fun x hx => (hE x (by omega)).trans (hE0 x hx)
  rw [show ad5 0 = ad6 0 from (hE 0 (by decide)).symm] at hl
  rw [show ad5 0 = ad6 0 from (hE 0 (by decide)).symm]
  have hw : aW D dA ad6 adV (aGs 30 [(29, 0), (29, 1), (29, 2), (29, 3), (29, 4), (29, 5), (29, 6), (29, 7), (0, 4), (0, 7), (0, 8), (0, 9), (0, 10)] (zR r34_11 29)) A s H locs := hw
  refine n_putF (U' := [(29, 0), (29, 1), (29, 2), (29, 3), (29, 4), (29, 5), (29, 6), (29, 7), (0, 7), (0, 8), (0, 9), (0, 10)]) (ty := .array (.object "LineupDesk$Lineup")) (o := 0) (q := 29) (T := TX6) (N := 11) (ty0 := tyX6) C hin wU_X6 tyX6_ok nmX6 hw (by decide) rfl (by decide) rfl 4 (by decide) rfl wF_X6_31 rfl rfl (by decide +kernel) rfl rfl rfl (uDel_1 (U := [(29, 0), (29, 1), (29, 2), (29, 3), (29, 4), (29, 5), (29, 6), (29, 7), (0, 4), (0, 7), (0, 8), (0, 9), (0, 10)])) (uDel_2 (U := [(29, 0), (29, 1), (29, 2), (29, 3), (29, 4), (29, 5), (29, 6), (29, 7), (0, 4), (0, 7), (0, 8), (0, 9), (0, 10)])) dX6_init_46 (fun H locs hw => ?_)
  have hw : aW D dA ad6 adV (aGs 30 [(29, 0), (29, 1), (29, 2), (29, 3), (29, 4), (29, 5), (29, 6), (29, 7), (0, 7), (0, 8), (0, 9), (0, 10)] (zR r34_11 29)) A s H locs := hw
  refine lv_aload_n hx hb dX6_init_49 rfl (lv_at hl 0 rfl) ?_
  refine lv_iconst (v := (0 : Int32)) hx hb dX6_init_50 (by decide) ?_
  refine a_puti (ty := .int) (σ := aGs 30 [(29, 0), (29, 1), (29, 2), (29, 3), (29, 4), (29, 5), (29, 6), (29, 7), (0, 7), (0, 8), (0, 9), (0, 10)] (zR r34_11 29)) (o := 0) (T := TX6) (N := 11) (ty0 := tyX6) C wU_X6 tyX6_ok nmX6 hw rfl (by decide) rfl 5 (by decide) rfl wF_X6_35 rfl (by decide +kernel) rfl rfl dX6_init_51 (fun H locs hw => ?_)
  have hw : aW D dA ad6 adV (aGs 30 [(29, 0), (29, 1), (29, 2), (29, 3), (29, 4), (29, 5), (29, 6), (29, 7), (0, 7), (0, 8), (0, 9), (0, 10)] (pI (zR r34_11 29) 0 5 (0 : Int32))) A s H locs := by rw [aGs_PI] at hw; exact hw
  refine lv_aload_n hx hb dX6_init_54 rfl (lv_at hl 0 rfl) ?_
  refine lv_iconst (v := (-1 : Int32)) hx hb dX6_init_55 (by decide) ?_
  refine a_puti (ty := .int) (σ := aGs 30 [(29, 0), (29, 1), (29, 2), (29, 3), (29, 4), (29, 5), (29, 6), (29, 7), (0, 7), (0, 8), (0, 9), (0, 10)] (pI (zR r34_11 29) 0 5 (0 : Int32))) (o := 0) (T := TX6) (N := 11) (ty0 := tyX6) C wU_X6 tyX6_ok nmX6 hw rfl (by decide) rfl 6 (by decide) rfl wF_X6_38 rfl (by decide +kernel) rfl rfl dX6_init_56 (fun H locs hw => ?_)
  have hw : aW D dA ad6 adV (aGs 30 [(29, 0), (29, 1), (29, 2), (29, 3), (29, 4), (29, 5), (29, 6), (29, 7), (0, 7), (0, 8), (0, 9), (0, 10)] (pI (pI (zR r34_11 29) 0 5 (0 : Int32)) 0 6 (-1 : Int32))) A s H locs := by rw [aGs_PI] at hw; exact hw
  refine lv_aload_n hx hb dX6_init_59 rfl (lv_at hl 0 rfl) ?_
  refine lv_iconst (v := (3 : Int32)) hx hb dX6_init_60 (by decide) ?_
  refine n_newa (U' := [(29, 0), (29, 1), (29, 2), (29, 3), (29, 4), (29, 5), (29, 6), (29, 7), (0, 7), (0, 8), (0, 9), (0, 10)]) (ty := .int) (t := 9) C hw (by decide) rfl (nOk.of (N := ([] : List (Nat × Nat))) (by decide +kernel) (by decide)) wA_9 rfl rfl (Or.inr (Or.inl ⟨rfl, rfl⟩)) (by decide) (by decide) (by decide) (Nat.le_of_ble_eq_true rfl) (Nat.le_of_ble_eq_true rfl) dX6_init_61 (fun ad7 H hE hw => ?_)
  have hE0 : ∀ x, x < 1 ∨ 1000000 ≤ x → ad7 x = ad x := fun x hx => (hE x (by omega)).trans (hE0 x hx)
  rw [show ad6 0 = ad7 0 from (hE 0 (by decide)).symm] at hl
  rw [show ad6 0 = ad7 0 from (hE 0 (by decide)).symm]
  have hw : aW D dA ad7 adV (aGs 31 [(29, 0), (29, 1), (29, 2), (29, 3), (29, 4), (29, 5), (29, 6), (29, 7), (0, 7), (0, 8), (0, 9), (0, 10)] (zR (pI (pI (zR r34_11 29) 0 5 (0 : Int32)) 0 6 (-1 : Int32)) 30)) A s H locs := hw
  refine n_putF (U' := [(29, 0), (29, 1), (29, 2), (29, 3), (29, 4), (29, 5), (29, 6), (29, 7), (0, 8), (0, 9), (0, 10)]) (ty := .array .int) (o := 0) (q := 30) (T := TX6) (N := 11) (ty0 := tyX6) C hin wU_X6 tyX6_ok nmX6 hw (by decide) rfl (by decide) rfl 7 (by decide) rfl wF_X6_41 rfl rfl (by decide +kernel) rfl rfl rfl (uDel_1 (U := [(29, 0), (29, 1), (29, 2), (29, 3), (29, 4), (29, 5), (29, 6), (29, 7), (0, 7), (0, 8), (0, 9), (0, 10)])) (uDel_2 (U := [(29, 0), (29, 1), (29, 2), (29, 3), (29, 4), (29, 5), (29, 6), (29, 7), (0, 7), (0, 8), (0, 9), (0, 10)])) dX6_init_63 (fun H locs hw => ?_)
  have hw : aW D dA ad7 adV (aGs 31 [(29, 0), (29, 1), (29, 2), (29, 3), (29, 4), (29, 5), (29, 6), (29, 7), (0, 8), (0, 9), (0, 10)] (zR (pI (pI (zR r34_11 29) 0 5 (0 : Int32)) 0 6 (-1 : Int32)) 30)) A s H locs := hw
  refine lv_aload_n hx hb dX6_init_66 rfl (lv_at hl 0 rfl) ?_
  refine n_new (U' := [(31, 1), (29, 0), (29, 1), (29, 2), (29, 3), (29, 4), (29, 5), (29, 6), (29, 7), (0, 8), (0, 9), (0, 10)]) (ci := 5) (T := TX5) (N := 5) (ty0 := tyX5) C wU_X5 tyX5_ok hw (by decide) rfl (by decide) rfl (nOk.of (N := [(31, 1)]) (by decide +kernel) (by decide)) (by decide) dv_X5 wK_X6_45 wN_X5 wZ_X5 (Nat.le_of_ble_eq_true rfl) (Nat.le_of_ble_eq_true rfl) dX6_init_67 (fun ad8 H hE hw => ?_)
  have hE0 : ∀ x, x < 1 ∨ 1000000 ≤ x → ad8 x = ad x := fun x hx => (hE x (by omega)).trans (hE0 x hx)
  rw [show ad7 0 = ad8 0 from (hE 0 (by decide)).symm] at hl
  rw [show ad7 0 = ad8 0 from (hE 0 (by decide)).symm]
  have hw : aW D dA ad8 adV (aGs 32 [(31, 1), (29, 0), (29, 1), (29, 2), (29, 3), (29, 4), (29, 5), (29, 6), (29, 7), (0, 8), (0, 9), (0, 10)] (zR (zR (pI (pI (zR r34_11 29) 0 5 (0 : Int32)) 0 6 (-1 : Int32)) 30) 31)) A s H locs := hw
  refine lv_dup hx hb dX6_init_70 rfl ?_
  obtain ⟨r71_31, hr71_31, hM⟩ := h_b hM
  refine n_callIN (σ' := aGs 33 [(29, 0), (29, 1), (29, 2), (29, 3), (29, 4), (29, 5), (29, 6), (29, 7), (0, 8), (0, 9), (0, 10)] r71_31) (o := 31) (rest := [.ref (ad8 31), .ref (ad8 0)]) C hY hw (ci_X5_init_31 l hr71_31) ki_X5_init (host := "LineupDesk") (by decide) ⟨⟨rfl, rfl⟩, Nat.le_of_ble_eq_true rfl, Nat.le_of_ble_eq_true rfl⟩ hl (Nat.le_of_ble_eq_true rfl) dX6_init_71 ⟨Nat.le_of_ble_eq_true rfl, Nat.le_of_ble_eq_true rfl⟩ (fun ad9 H locs hE hw => ?_)
  have hE0 : ∀ x, x < 1 ∨ 1000000 ≤ x → ad9 x = ad x := fun x hx => (hE x (by omega)).trans (hE0 x hx)
  rw [show ad8 0 = ad9 0 from (hE 0 (by decide)).symm] at hl
  rw [show ad8 0 = ad9 0 from (hE 0 (by decide)).symm]
  rw [show ad8 31 = ad9 31 from (hE 31 (by decide)).symm]
  refine n_putF (U' := [(29, 0), (29, 1), (29, 2), (29, 3), (29, 4), (29, 5), (29, 6), (29, 7), (0, 9), (0, 10)]) (ty := .object "LineupDesk$Witness") (o := 0) (q := 31) (T := TX6) (N := 11) (ty0 := tyX6) C hin wU_X6 tyX6_ok nmX6 hw (by decide) rfl (by decide) rfl 8 (by decide) rfl wF_X6_48 rfl rfl (by decide +kernel) rfl rfl rfl (uDel_1 (U := [(29, 0), (29, 1), (29, 2), (29, 3), (29, 4), (29, 5), (29, 6), (29, 7), (0, 8), (0, 9), (0, 10)])) (uDel_2 (U := [(29, 0), (29, 1), (29, 2), (29, 3), (29, 4), (29, 5), (29, 6), (29, 7), (0, 8), (0, 9), (0, 10)])) dX6_init_74 (fun H locs hw => ?_)
  have hw : aW D dA ad9 adV (aGs 33 [(29, 0), (29, 1), (29, 2), (29, 3), (29, 4), (29, 5), (29, 6), (29, 7), (0, 9), (0, 10)] r71_31) A s H locs := hw
  refine lv_aload_n hx hb dX6_init_77 rfl (lv_at hl 0 rfl) ?_
  refine n_new (U' := [(33, 1), (29, 0), (29, 1), (29, 2), (29, 3), (29, 4), (29, 5), (29, 6), (29, 7), (0, 9), (0, 10)]) (ci := 5) (T := TX5) (N := 5) (ty0 := tyX5) C wU_X5 tyX5_ok hw (by decide) rfl (by decide) rfl (nOk.of (N := [(33, 1)]) (by decide +kernel) (by decide)) (by decide) dv_X5 wK_X6_45 wN_X5 wZ_X5 (Nat.le_of_ble_eq_true rfl) (Nat.le_of_ble_eq_true rfl) dX6_init_78 (fun ad10 H hE hw => ?_)
  have hE0 : ∀ x, x < 1 ∨ 1000000 ≤ x → ad10 x = ad x := fun x hx => (hE x (by omega)).trans (hE0 x hx)
  rw [show ad9 0 = ad10 0 from (hE 0 (by decide)).symm] at hl
  rw [show ad9 0 = ad10 0 from (hE 0 (by decide)).symm]
  have hw : aW D dA ad10 adV (aGs 34 [(33, 1), (29, 0), (29, 1), (29, 2), (29, 3), (29, 4), (29, 5), (29, 6), (29, 7), (0, 9), (0, 10)] (zR r71_31 33)) A s H locs := hw
  refine lv_dup hx hb dX6_init_81 rfl ?_
  obtain ⟨r82_33, hr82_33, hM⟩ := h_b hM
  refine n_callIN (σ' := aGs 35 [(29, 0), (29, 1), (29, 2), (29, 3), (29, 4), (29, 5), (29, 6), (29, 7), (0, 9), (0, 10)] r82_33) (o := 33) (rest := [.ref (ad10 33), .ref (ad10 0)]) C hY hw (ci_X5_init_33 l hr82_33) ki_X5_init (host := "LineupDesk") (by decide) ⟨⟨rfl, rfl⟩, Nat.le_of_ble_eq_true rfl, Nat.le_of_ble_eq_true rfl⟩ hl (Nat.le_of_ble_eq_true rfl) dX6_init_82 ⟨Nat.le_of_ble_eq_true rfl, Nat.le_of_ble_eq_true rfl⟩ (fun ad11 H locs hE hw => ?_)
  have hE0 : ∀ x, x < 1 ∨ 1000000 ≤ x → ad11 x = ad x := fun x hx => (hE x (by omega)).trans (hE0 x hx)
  rw [show ad10 0 = ad11 0 from (hE 0 (by decide)).symm] at hl
  rw [show ad10 0 = ad11 0 from (hE 0 (by decide)).symm]
  rw [show ad10 33 = ad11 33 from (hE 33 (by decide)).symm]
  refine n_putF (U' := [(29, 0), (29, 1), (29, 2), (29, 3), (29, 4), (29, 5), (29, 6), (29, 7), (0, 10)]) (ty := .object "LineupDesk$Witness") (o := 0) (q := 33) (T := TX6) (N := 11) (ty0 := tyX6) C hin wU_X6 tyX6_ok nmX6 hw (by decide) rfl (by decide) rfl 9 (by decide) rfl wF_X6_52 rfl rfl (by decide +kernel) rfl rfl rfl (uDel_1 (U := [(29, 0), (29, 1), (29, 2), (29, 3), (29, 4), (29, 5), (29, 6), (29, 7), (0, 9), (0, 10)])) (uDel_2 (U := [(29, 0), (29, 1), (29, 2), (29, 3), (29, 4), (29, 5), (29, 6), (29, 7), (0, 9), (0, 10)])) dX6_init_85 (fun H locs hw => ?_)
  have hw : aW D dA ad11 adV (aGs 35 [(29, 0), (29, 1), (29, 2), (29, 3), (29, 4), (29, 5), (29, 6), (29, 7), (0, 10)] r82_33) A s H locs := hw
  refine lv_aload_n hx hb dX6_init_88 rfl (lv_at hl 0 rfl) ?_
  refine n_new (U' := [(35, 5), (29, 0), (29, 1), (29, 2), (29, 3), (29, 4), (29, 5), (29, 6), (29, 7), (0, 10)]) (ci := 0) (T := TX0) (N := 6) (ty0 := tyX0) C wU_X0 tyX0_ok hw (by decide) rfl (by decide) rfl (nOk.of (N := [(35, 5)]) (by decide +kernel) (by decide)) (by decide) dv_X0 wK_X6_55 wN_X0 wZ_X0 (Nat.le_of_ble_eq_true rfl) (Nat.le_of_ble_eq_true rfl) dX6_init_89 (fun ad12 H hE hw => ?_)
  have hE0 : ∀ x, x < 1 ∨ 1000000 ≤ x → ad12 x = ad x := fun x hx => (hE x (by omega)).trans (hE0 x hx)
  rw [show ad11 0 = ad12 0 from (hE 0 (by decide)).symm] at hl
  rw [show ad11 0 = ad12 0 from (hE 0 (by decide)).symm]
  have hw : aW D dA ad12 adV (aGs 36 [(35, 5), (29, 0), (29, 1), (29, 2), (29, 3), (29, 4), (29, 5), (29, 6), (29, 7), (0, 10)] (zR r82_33 35)) A s H locs := hw
  refine lv_dup hx hb dX6_init_92 rfl ?_
  obtain ⟨r93_35, hr93_35, hM⟩ := h_b hM
  refine n_callIN (σ' := aGs 37 [(29, 0), (29, 1), (29, 2), (29, 3), (29, 4), (29, 5), (29, 6), (29, 7), (0, 10)] r93_35) (o := 35) (rest := [.ref (ad12 35), .ref (ad12 0)]) C hY hw (ci_X0_init_35 l hr93_35) ki_X0_init (host := "LineupDesk") (by decide) ⟨⟨rfl, rfl⟩, Nat.le_of_ble_eq_true rfl, Nat.le_of_ble_eq_true rfl⟩ hl (Nat.le_of_ble_eq_true rfl) dX6_init_93 ⟨Nat.le_of_ble_eq_true rfl, Nat.le_of_ble_eq_true rfl⟩ (fun ad13 H locs hE hw => ?_)
  have hE0 : ∀ x, x < 1 ∨ 1000000 ≤ x → ad13 x = ad x := fun x hx => (hE x (by omega)).trans (hE0 x hx)
  rw [show ad12 0 = ad13 0 from (hE 0 (by decide)).symm] at hl
  rw [show ad12 0 = ad13 0 from (hE 0 (by decide)).symm]
  rw [show ad12 35 = ad13 35 from (hE 35 (by decide)).symm]
  refine n_putF (U' := [(29, 0), (29, 1), (29, 2), (29, 3), (29, 4), (29, 5), (29, 6), (29, 7)]) (ty := .object "LineupDesk$Chooser") (o := 0) (q := 35) (T := TX6) (N := 11) (ty0 := tyX6) C hin wU_X6 tyX6_ok nmX6 hw (by decide) rfl (by decide) rfl 10 (by decide) rfl wF_X6_58 rfl rfl (by decide +kernel) rfl rfl rfl (uDel_1 (U := [(29, 0), (29, 1), (29, 2), (29, 3), (29, 4), (29, 5), (29, 6), (29, 7), (0, 10)])) (uDel_2 (U := [(29, 0), (29, 1), (29, 2), (29, 3), (29, 4), (29, 5), (29, 6), (29, 7), (0, 10)])) dX6_init_96 (fun H locs hw => ?_)
  have hw : aW D dA ad13 adV (aGs 37 [(29, 0), (29, 1), (29, 2), (29, 3), (29, 4), (29, 5), (29, 6), (29, 7)] r93_35) A s H locs := hw
  refine lv_iconst (v := (0 : Int32)) hx hb dX6_init_99 (by decide) ?_
  refine lv_istore_n (lv' := [(1, .int (0 : Int32)), (0, .ref (ad13 0))]) hx hb dX6_init_100 rfl hl (by decide) rfl (fun ls hl => ?_)
  refine lv_iload_n hx hb dX6_init_101 rfl (lv_at hl 0 rfl) ?_
  refine lv_aload_n hx hb dX6_init_102 rfl (lv_at hl 1 rfl) ?_
  refine a_getp (q := 29) (σ := aGs 37 [(29, 0), (29, 1), (29, 2), (29, 3), (29, 4), (29, 5), (29, 6), (29, 7)] r93_35) (o := 0) (T := TX6) (N := 11) C wU_X6 hw rfl (by decide) rfl 4 (by decide) rfl wF_X6_31 (aGs_P rfl rfl) dX6_init_103 ?_
  refine a_alenq (σ := aGs 37 [(29, 0), (29, 1), (29, 2), (29, 3), (29, 4), (29, 5), (29, 6), (29, 7)] r93_35) (o := 29) (v := (8 : Int32)) C hw rfl (by decide) dX6_init_106 ?_
  refine lv_icmp_ge (tgt := 129) hx hb dX6_init_107 (by decide) (fun hc => absurd hc (by decide)) (fun hc => ?_)
  refine lv_aload_n hx hb dX6_init_110 rfl (lv_at hl 1 rfl) ?_
  refine a_getp (q := 29) (σ := aGs 37 [(29, 0), (29, 1), (29, 2), (29, 3), (29, 4), (29, 5), (29, 6), (29, 7)] r93_35) (o := 0) (T := TX6) (N := 11) C wU_X6 hw rfl (by decide) rfl 4 (by decide) rfl wF_X6_31 (aGs_P rfl rfl) dX6_init_111 ?_
  refine lv_iload_n hx hb dX6_init_114 rfl (lv_at hl 0 rfl) ?_
  refine n_new (U' := [(37, 3), (37, 4), (37, 5), (37, 6), (37, 7), (37, 8), (37, 9), (37, 10), (29, 0), (29, 1), (29, 2), (29, 3), (29, 4), (29, 5), (29, 6), (29, 7)]) (ci := 2) (T := TX2) (N := 11) (ty0 := tyX2) C wU_X2 tyX2_ok hw (by decide) rfl (by decide) rfl (nOk.of (N := [(37, 3), (37, 4), (37, 5), (37, 6), (37, 7), (37, 8), (37, 9), (37, 10)]) (by decide +kernel) (by decide)) (by decide) dv_X2 wK_X6_17 wN_X2 wZ_X2 (Nat.le_of_ble_eq_true rfl) (Nat.le_of_ble_eq_true rfl) dX6_init_115 (fun ad14 H hE hw => ?_)
  have hE0 : ∀ x, x < 1 ∨ 1000000 ≤ x → ad14 x = ad x := fun x hx => (hE x (by omega)).trans (hE0 x hx)
  rw [show ad13 0 = ad14 0 from (hE 0 (by decide)).symm] at hl
  rw [show ad13 29 = ad14 29 from (hE 29 (by decide)).symm]
  have hw : aW D dA ad14 adV (aGs 38 [(37, 3), (37, 4), (37, 5), (37, 6), (37, 7), (37, 8), (37, 9), (37, 10), (29, 0), (29, 1), (29, 2), (29, 3), (29, 4), (29, 5), (29, 6), (29, 7)] (zR r93_35 37)) A s H locs := hw
  refine lv_dup hx hb dX6_init_118 rfl ?_
  obtain ⟨r119_37, hr119_37, hM⟩ := h_b hM
  refine n_callI (σ' := aGs 46 [(29, 0), (29, 1), (29, 2), (29, 3), (29, 4), (29, 5), (29, 6), (29, 7)] r119_37) (o := 37) (rest := [.ref (ad14 37), .int (0 : Int32), .ref (ad14 29)]) C hY hw (ci_X2_init_37 l hr119_37) ki_X2_init wM_X6_19 ⟨⟨rfl, rfl⟩, Nat.le_of_ble_eq_true rfl, Nat.le_of_ble_eq_true rfl⟩ hl (Nat.le_of_ble_eq_true rfl) dX6_init_119 ⟨Nat.le_of_ble_eq_true rfl, Nat.le_of_ble_eq_true rfl⟩ (fun ad15 H locs hE hw => ?_)
  have hE0 : ∀ x, x < 1 ∨ 1000000 ≤ x → ad15 x = ad x := fun x hx => (hE x (by omega)).trans (hE0 x hx)
  rw [show ad14 0 = ad15 0 from (hE 0 (by decide)).symm] at hl
  rw [show ad14 29 = ad15 29 from (hE 29 (by decide)).symm]
  rw [show ad14 37 = ad15 37 from (hE 37 (by decide)).symm]
  refine n_aast (U' := [(29, 1), (29, 2), (29, 3), (29, 4), (29, 5), (29, 6), (29, 7)]) (o := 29) (q := 37) (j := 0) C hw (by decide) (by decide) rfl rfl (aIn_v (by decide)) (by decide) rfl (uDel_1 (U := [(29, 0), (29, 1), (29, 2), (29, 3), (29, 4), (29, 5), (29, 6), (29, 7)])) (uDel_2 (U := [(29, 0), (29, 1), (29, 2), (29, 3), (29, 4), (29, 5), (29, 6), (29, 7)])) dX6_init_122 (fun H locs hw => ?_)
  have hw : aW D dA ad15 adV (aGs 46 [(29, 1), (29, 2), (29, 3), (29, 4), (29, 5), (29, 6), (29, 7)] r119_37) A s H locs := hw
  refine lv_iinc (v := (1 : Int32)) (lv' := [(1, .int (1 : Int32)), (0, .ref (ad15 0))]) hx hb dX6_init_123 hl (k := 0) rfl rfl (by decide) rfl (fun ls hl => ?_)
  refine lv_goto (tgt := 101) hx hb dX6_init_126 (by decide) ?_
  refine lv_iload_n hx hb dX6_init_101 rfl (lv_at hl 0 rfl) ?_
  refine lv_aload_n hx hb dX6_init_102 rfl (lv_at hl 1 rfl) ?_
  refine a_getp (q := 29) (σ := aGs 46 [(29, 1), (29, 2), (29, 3), (29, 4), (29, 5), (29, 6), (29, 7)] r119_37) (o := 0) (T := TX6) (N := 11) C wU_X6 hw rfl (by decide) rfl 4 (by decide) rfl wF_X6_31 (aGs_P rfl rfl) dX6_init_103 ?_
  refine a_alenq (σ := aGs 46 [(29, 1), (29, 2), (29, 3), (29, 4), (29, 5), (29, 6), (29, 7)] r119_37) (o := 29) (v := (8 : Int32)) C hw rfl (by decide) dX6_init_106 ?_
  refine lv_icmp_ge (tgt := 129) hx hb dX6_init_107 (by decide) (fun hc => absurd hc (by decide)) (fun hc => ?_)
  refine lv_aload_n hx hb dX6_init_110 rfl (lv_at hl 1 rfl) ?_
  refine a_getp (q := 29) (σ := aGs 46 [(29, 1), (29, 2), (29, 3), (29, 4), (29, 5), (29, 6), (29, 7)] r119_37) (o := 0) (T := TX6) (N := 11) C wU_X6 hw rfl (by decide) rfl 4 (by decide) rfl wF_X6_31 (aGs_P rfl rfl) dX6_init_111 ?_
  refine lv_iload_n hx hb dX6_init_114 rfl (lv_at hl 0 rfl) ?_
  refine n_new (U' := [(46, 3), (46, 4), (46, 5), (46, 6), (46, 7), (46, 8), (46, 9), (46, 10), (29, 1), (29, 2), (29, 3), (29, 4), (29, 5), (29, 6), (29, 7)]) (ci := 2) (T := TX2) (N := 11) (ty0 := tyX2) C wU_X2 tyX2_ok hw (by decide) rfl (by decide) rfl (nOk.of (N := [(46, 3), (46, 4), (46, 5), (46, 6), (46, 7), (46, 8), (46, 9), (46, 10)]) (by decide +kernel) (by decide)) (by decide) dv_X2 wK_X6_17 wN_X2 wZ_X2 (Nat.le_of_ble_eq_true rfl) (Nat.le_of_ble_eq_true rfl) dX6_init_115 (fun ad16 H hE hw => ?_)
  have hE0 : ∀ x, x < 1 ∨ 1000000 ≤ x → ad16 x = ad x := fun x hx => (hE x (by omega)).trans (hE0 x hx)
  rw [show ad15 0 = ad16 0 from (hE 0 (by decide)).symm] at hl
  rw [show ad15 29 = ad16 29 from (hE 29 (by decide)).symm]
  have hw : aW D dA ad16 adV (aGs 47 [(46, 3), (46, 4), (46, 5), (46, 6), (46, 7), (46, 8), (46, 9), (46, 10), (29, 1), (29, 2), (29, 3), (29, 4), (29, 5), (29, 6), (29, 7)] (zR r119_37 46)) A s H locs := hw
  refine lv_dup hx hb dX6_init_118 rfl ?_
  obtain ⟨r119_46, hr119_46, hM⟩ := h_b hM
  refine n_callI (σ' := aGs 55 [(29, 1), (29, 2), (29, 3), (29, 4), (29, 5), (29, 6), (29, 7)] r119_46) (o := 46) (rest := [.ref (ad16 46), .int (1 : Int32), .ref (ad16 29)]) C hY hw (ci_X2_init_46 l hr119_46) ki_X2_init wM_X6_19 ⟨⟨rfl, rfl⟩, Nat.le_of_ble_eq_true rfl, Nat.le_of_ble_eq_true rfl⟩ hl (Nat.le_of_ble_eq_true rfl) dX6_init_119 ⟨Nat.le_of_ble_eq_true rfl, Nat.le_of_ble_eq_true rfl⟩ (fun ad17 H locs hE hw => ?_)
  have hE0 : ∀ x, x < 1 ∨ 1000000 ≤ x → ad17 x = ad x := fun x hx => (hE x (by omega)).trans (hE0 x hx)
  rw [show ad16 0 = ad17 0 from (hE 0 (by decide)).symm] at hl
  rw [show ad16 29 = ad17 29 from (hE 29 (by decide)).symm]
  rw [show ad16 46 = ad17 46 from (hE 46 (by decide)).symm]
  refine n_aast (U' := [(29, 2), (29, 3), (29, 4), (29, 5), (29, 6), (29, 7)]) (o := 29) (q := 46) (j := 1) C hw (by decide) (by decide) rfl rfl (aIn_v (by decide)) (by decide) rfl (uDel_1 (U := [(29, 1), (29, 2), (29, 3), (29, 4), (29, 5), (29, 6), (29, 7)])) (uDel_2 (U := [(29, 1), (29, 2), (29, 3), (29, 4), (29, 5), (29, 6), (29, 7)])) dX6_init_122 (fun H locs hw => ?_)
  have hw : aW D dA ad17 adV (aGs 55 [(29, 2), (29, 3), (29, 4), (29, 5), (29, 6), (29, 7)] r119_46) A s H locs := hw
  refine lv_iinc (v := (2 : Int32)) (lv' := [(1, .int (2 : Int32)), (0, .ref (ad17 0))]) hx hb dX6_init_123 hl (k := 0) rfl rfl (by decide) rfl (fun ls hl => ?_)
  refine lv_goto (tgt := 101) hx hb dX6_init_126 (by decide) ?_
  refine lv_iload_n hx hb dX6_init_101 rfl (lv_at hl 0 rfl) ?_
  refine lv_aload_n hx hb dX6_init_102 rfl (lv_at hl 1 rfl) ?_
  refine a_getp (q := 29) (σ := aGs 55 [(29, 2), (29, 3), (29, 4), (29, 5), (29, 6), (29, 7)] r119_46) (o := 0) (T := TX6) (N := 11) C wU_X6 hw rfl (by decide) rfl 4 (by decide) rfl wF_X6_31 (aGs_P rfl rfl) dX6_init_103 ?_
  refine a_alenq (σ := aGs 55 [(29, 2), (29, 3), (29, 4), (29, 5), (29, 6), (29, 7)] r119_46) (o := 29) (v := (8 : Int32)) C hw rfl (by decide) dX6_init_106 ?_
  refine lv_icmp_ge (tgt := 129) hx hb dX6_init_107 (by decide) (fun hc => absurd hc (by decide)) (fun hc => ?_)
  refine lv_aload_n hx hb dX6_init_110 rfl (lv_at hl 1 rfl) ?_
  refine a_getp (q := 29) (σ := aGs 55 [(29, 2), (29, 3), (29, 4), (29, 5), (29, 6), (29, 7)] r119_46) (o := 0) (T := TX6) (N := 11) C wU_X6 hw rfl (by decide) rfl 4 (by decide) rfl wF_X6_31 (aGs_P rfl rfl) dX6_init_111 ?_
  refine lv_iload_n hx hb dX6_init_114 rfl (lv_at hl 0 rfl) ?_
  refine n_new (U' := [(55, 3), (55, 4), (55, 5), (55, 6), (55, 7), (55, 8), (55, 9), (55, 10), (29, 2), (29, 3), (29, 4), (29, 5), (29, 6), (29, 7)]) (ci := 2) (T := TX2) (N := 11) (ty0 := tyX2) C wU_X2 tyX2_ok hw (by decide) rfl (by decide) rfl (nOk.of (N := [(55, 3), (55, 4), (55, 5), (55, 6), (55, 7), (55, 8), (55, 9), (55, 10)]) (by decide +kernel) (by decide)) (by decide) dv_X2 wK_X6_17 wN_X2 wZ_X2 (Nat.le_of_ble_eq_true rfl) (Nat.le_of_ble_eq_true rfl) dX6_init_115 (fun ad18 H hE hw => ?_)
  have hE0 : ∀ x, x < 1 ∨ 1000000 ≤ x → ad18 x = ad x := fun x hx => (hE x (by omega)).trans (hE0 x hx)
  rw [show ad17 0 = ad18 0 from (hE 0 (by decide)).symm] at hl
  rw [show ad17 29 = ad18 29 from (hE 29 (by decide)).symm]
  have hw : aW D dA ad18 adV (aGs 56 [(55, 3), (55, 4), (55, 5), (55, 6), (55, 7), (55, 8), (55, 9), (55, 10), (29, 2), (29, 3), (29, 4), (29, 5), (29, 6), (29, 7)] (zR r119_46 55)) A s H locs := hw
  refine lv_dup hx hb dX6_init_118 rfl ?_
  obtain ⟨r119_55, hr119_55, hM⟩ := h_b hM
  refine n_callI (σ' := aGs 64 [(29, 2), (29, 3), (29, 4), (29, 5), (29, 6), (29, 7)] r119_55) (o := 55) (rest := [.ref (ad18 55), .int (2 : Int32), .ref (ad18 29)]) C hY hw (ci_X2_init_55 l hr119_55) ki_X2_init wM_X6_19 ⟨⟨rfl, rfl⟩, Nat.le_of_ble_eq_true rfl, Nat.le_of_ble_eq_true rfl⟩ hl (Nat.le_of_ble_eq_true rfl) dX6_init_119 ⟨Nat.le_of_ble_eq_true rfl, Nat.le_of_ble_eq_true rfl⟩ (fun ad19 H locs hE hw => ?_)
  have hE0 : ∀ x, x < 1 ∨ 1000000 ≤ x → ad19 x = ad x := fun x hx => (hE x (by omega)).trans (hE0 x hx)
  rw [show ad18 0 = ad19 0 from (hE 0 (by decide)).symm] at hl
  rw [show ad18 29 = ad19 29 from (hE 29 (by decide)).symm]
  rw [show ad18 55 = ad19 55 from (hE 55 (by decide)).symm]
  refine n_aast (U' := [(29, 3), (29, 4), (29, 5), (29, 6), (29, 7)]) (o := 29) (q := 55) (j := 2) C hw (by decide) (by decide) rfl rfl (aIn_v (by decide)) (by decide) rfl (uDel_1 (U := [(29, 2), (29, 3), (29, 4), (29, 5), (29, 6), (29, 7)])) (uDel_2 (U := [(29, 2), (29, 3), (29, 4), (29, 5), (29, 6), (29, 7)])) dX6_init_122 (fun H locs hw => ?_)
  have hw : aW D dA ad19 adV (aGs 64 [(29, 3), (29, 4), (29, 5), (29, 6), (29, 7)] r119_55) A s H locs := hw
  refine lv_iinc (v := (3 : Int32)) (lv' := [(1, .int (3 : Int32)), (0, .ref (ad19 0))]) hx hb dX6_init_123 hl (k := 0) rfl rfl (by decide) rfl (fun ls hl => ?_)
  refine lv_goto (tgt := 101) hx hb dX6_init_126 (by decide) ?_
  refine lv_iload_n hx hb dX6_init_101 rfl (lv_at hl 0 rfl) ?_
  refine lv_aload_n hx hb dX6_init_102 rfl (lv_at hl 1 rfl) ?_
  refine a_getp (q := 29) (σ := aGs 64 [(29, 3), (29, 4), (29, 5), (29, 6), (29, 7)] r119_55) (o := 0) (T := TX6) (N := 11) C wU_X6 hw rfl (by decide) rfl 4 (by decide) rfl wF_X6_31 (aGs_P rfl rfl) dX6_init_103 ?_
  refine a_alenq (σ := aGs 64 [(29, 3), (29, 4), (29, 5), (29, 6), (29, 7)] r119_55) (o := 29) (v := (8 : Int32)) C hw rfl (by decide) dX6_init_106 ?_
  refine lv_icmp_ge (tgt := 129) hx hb dX6_init_107 (by decide) (fun hc => absurd hc (by decide)) (fun hc => ?_)
  refine lv_aload_n hx hb dX6_init_110 rfl (lv_at hl 1 rfl) ?_
  refine a_getp (q := 29) (σ := aGs 64 [(29, 3), (29, 4), (29, 5), (29, 6), (29, 7)] r119_55) (o := 0) (T := TX6) (N := 11) C wU_X6 hw rfl (by decide) rfl 4 (by decide) rfl wF_X6_31 (aGs_P rfl rfl) dX6_init_111 ?_
  refine lv_iload_n hx hb dX6_init_114 rfl (lv_at hl 0 rfl) ?_
  refine n_new (U' := [(64, 3), (64, 4), (64, 5), (64, 6), (64, 7), (64, 8), (64, 9), (64, 10), (29, 3), (29, 4), (29, 5), (29, 6), (29, 7)]) (ci := 2) (T := TX2) (N := 11) (ty0 := tyX2) C wU_X2 tyX2_ok hw (by decide) rfl (by decide) rfl (nOk.of (N := [(64, 3), (64, 4), (64, 5), (64, 6), (64, 7), (64, 8), (64, 9), (64, 10)]) (by decide +kernel) (by decide)) (by decide) dv_X2 wK_X6_17 wN_X2 wZ_X2 (Nat.le_of_ble_eq_true rfl) (Nat.le_of_ble_eq_true rfl) dX6_init_115 (fun ad20 H hE hw => ?_)
  have hE0 : ∀ x, x < 1 ∨ 1000000 ≤ x → ad20 x = ad x := fun x hx => (hE x (by omega)).trans (hE0 x hx)
  rw [show ad19 0 = ad20 0 from (hE 0 (by decide)).symm] at hl
  rw [show ad19 29 = ad20 29 from (hE 29 (by decide)).symm]
  have hw : aW D dA ad20 adV (aGs 65 [(64, 3), (64, 4), (64, 5), (64, 6), (64, 7), (64, 8), (64, 9), (64, 10), (29, 3), (29, 4), (29, 5), (29, 6), (29, 7)] (zR r119_55 64)) A s H locs := hw
  refine lv_dup hx hb dX6_init_118 rfl ?_
  obtain ⟨r119_64, hr119_64, hM⟩ := h_b hM
  refine n_callI (σ' := aGs 73 [(29, 3), (29, 4), (29, 5), (29, 6), (29, 7)] r119_64) (o := 64) (rest := [.ref (ad20 64), .int (3 : Int32), .ref (ad20 29)]) C hY hw (ci_X2_init_64 l hr119_64) ki_X2_init wM_X6_19 ⟨⟨rfl, rfl⟩, Nat.le_of_ble_eq_true rfl, Nat.le_of_ble_eq_true rfl⟩ hl (Nat.le_of_ble_eq_true rfl) dX6_init_119 ⟨Nat.le_of_ble_eq_true rfl, Nat.le_of_ble_eq_true rfl⟩ (fun ad21 H locs hE hw => ?_)
  have hE0 : ∀ x, x < 1 ∨ 1000000 ≤ x → ad21 x = ad x := fun x hx => (hE x (by omega)).trans (hE0 x hx)
  rw [show ad20 0 = ad21 0 from (hE 0 (by decide)).symm] at hl
  rw [show ad20 29 = ad21 29 from (hE 29 (by decide)).symm]
  rw [show ad20 64 = ad21 64 from (hE 64 (by decide)).symm]
  refine n_aast (U' := [(29, 4), (29, 5), (29, 6), (29, 7)]) (o := 29) (q := 64) (j := 3) C hw (by decide) (by decide) rfl rfl (aIn_v (by decide)) (by decide) rfl (uDel_1 (U := [(29, 3), (29, 4), (29, 5), (29, 6), (29, 7)])) (uDel_2 (U := [(29, 3), (29, 4), (29, 5), (29, 6), (29, 7)])) dX6_init_122 (fun H locs hw => ?_)
  have hw : aW D dA ad21 adV (aGs 73 [(29, 4), (29, 5), (29, 6), (29, 7)] r119_64) A s H locs := hw
  refine lv_iinc (v := (4 : Int32)) (lv' := [(1, .int (4 : Int32)), (0, .ref (ad21 0))]) hx hb dX6_init_123 hl (k := 0) rfl rfl (by decide) rfl (fun ls hl => ?_)
  refine lv_goto (tgt := 101) hx hb dX6_init_126 (by decide) ?_
  refine lv_iload_n hx hb dX6_init_101 rfl (lv_at hl 0 rfl) ?_
  refine lv_aload_n hx hb dX6_init_102 rfl (lv_at hl 1 rfl) ?_
  refine a_getp (q := 29) (σ := aGs 73 [(29, 4), (29, 5), (29, 6), (29, 7)] r119_64) (o := 0) (T := TX6) (N := 11) C wU_X6 hw rfl (by decide) rfl 4 (by decide) rfl wF_X6_31 (aGs_P rfl rfl) dX6_init_103 ?_
  refine a_alenq (σ := aGs 73 [(29, 4), (29, 5), (29, 6), (29, 7)] r119_64) (o := 29) (v := (8 : Int32)) C hw rfl (by decide) dX6_init_106 ?_
  refine lv_icmp_ge (tgt := 129) hx hb dX6_init_107 (by decide) (fun hc => absurd hc (by decide)) (fun hc => ?_)
  refine lv_aload_n hx hb dX6_init_110 rfl (lv_at hl 1 rfl) ?_
  refine a_getp (q := 29) (σ := aGs 73 [(29, 4), (29, 5), (29, 6), (29, 7)] r119_64) (o := 0) (T := TX6) (N := 11) C wU_X6 hw rfl (by decide) rfl 4 (by decide) rfl wF_X6_31 (aGs_P rfl rfl) dX6_init_111 ?_
  refine lv_iload_n hx hb dX6_init_114 rfl (lv_at hl 0 rfl) ?_
  refine n_new (U' := [(73, 3), (73, 4), (73, 5), (73, 6), (73, 7), (73, 8), (73, 9), (73, 10), (29, 4), (29, 5), (29, 6), (29, 7)]) (ci := 2) (T := TX2) (N := 11) (ty0 := tyX2) C wU_X2 tyX2_ok hw (by decide) rfl (by decide) rfl (nOk.of (N := [(73, 3), (73, 4), (73, 5), (73, 6), (73, 7), (73, 8), (73, 9), (73, 10)]) (by decide +kernel) (by decide)) (by decide) dv_X2 wK_X6_17 wN_X2 wZ_X2 (Nat.le_of_ble_eq_true rfl) (Nat.le_of_ble_eq_true rfl) dX6_init_115 (fun ad22 H hE hw => ?_)
  have hE0 : ∀ x, x < 1 ∨ 1000000 ≤ x → ad22 x = ad x := fun x hx => (hE x (by omega)).trans (hE0 x hx)
  rw [show ad21 0 = ad22 0 from (hE 0 (by decide)).symm] at hl
  rw [show ad21 29 = ad22 29 from (hE 29 (by decide)).symm]
  have hw : aW D dA ad22 adV (aGs 74 [(73, 3), (73, 4), (73, 5), (73, 6), (73, 7), (73, 8), (73, 9), (73, 10), (29, 4), (29, 5), (29, 6), (29, 7)] (zR r119_64 73)) A s H locs := hw
  refine lv_dup hx hb dX6_init_118 rfl ?_
  obtain ⟨r119_73, hr119_73, hM⟩ := h_b hM
  refine n_callI (σ' := aGs 82 [(29, 4), (29, 5), (29, 6), (29, 7)] r119_73) (o := 73) (rest := [.ref (ad22 73), .int (4 : Int32), .ref (ad22 29)]) C hY hw (ci_X2_init_73 l hr119_73) ki_X2_init wM_X6_19 ⟨⟨rfl, rfl⟩, Nat.le_of_ble_eq_true rfl, Nat.le_of_ble_eq_true rfl⟩ hl (Nat.le_of_ble_eq_true rfl) dX6_init_119 ⟨Nat.le_of_ble_eq_true rfl, Nat.le_of_ble_eq_true rfl⟩ (fun ad23 H locs hE hw => ?_)
  have hE0 : ∀ x, x < 1 ∨ 1000000 ≤ x → ad23 x = ad x := fun x hx => (hE x (by omega)).trans (hE0 x hx)
  rw [show ad22 0 = ad23 0 from (hE 0 (by decide)).symm] at hl
  rw [show ad22 29 = ad23 29 from (hE 29 (by decide)).symm]
  rw [show ad22 73 = ad23 73 from (hE 73 (by decide)).symm]
  refine n_aast (U' := [(29, 5), (29, 6), (29, 7)]) (o := 29) (q := 73) (j := 4) C hw (by decide) (by decide) rfl rfl (aIn_v (by decide)) (by decide) rfl (uDel_1 (U := [(29, 4), (29, 5), (29, 6), (29, 7)])) (uDel_2 (U := [(29, 4), (29, 5), (29, 6), (29, 7)])) dX6_init_122 (fun H locs hw => ?_)
  have hw : aW D dA ad23 adV (aGs 82 [(29, 5), (29, 6), (29, 7)] r119_73) A s H locs := hw
  refine lv_iinc (v := (5 : Int32)) (lv' := [(1, .int (5 : Int32)), (0, .ref (ad23 0))]) hx hb dX6_init_123 hl (k := 0) rfl rfl (by decide) rfl (fun ls hl => ?_)
  refine lv_goto (tgt := 101) hx hb dX6_init_126 (by decide) ?_
  refine lv_iload_n hx hb dX6_init_101 rfl (lv_at hl 0 rfl) ?_
  refine lv_aload_n hx hb dX6_init_102 rfl (lv_at hl 1 rfl) ?_
  refine a_getp (q := 29) (σ := aGs 82 [(29, 5), (29, 6), (29, 7)] r119_73) (o := 0) (T := TX6) (N := 11) C wU_X6 hw rfl (by decide) rfl 4 (by decide) rfl wF_X6_31 (aGs_P rfl rfl) dX6_init_103 ?_
  refine a_alenq (σ := aGs 82 [(29, 5), (29, 6), (29, 7)] r119_73) (o := 29) (v := (8 : Int32)) C hw rfl (by decide) dX6_init_106 ?_
  refine lv_icmp_ge (tgt := 129) hx hb dX6_init_107 (by decide) (fun hc => absurd hc (by decide)) (fun hc => ?_)
  refine lv_aload_n hx hb dX6_init_110 rfl (lv_at hl 1 rfl) ?_
  refine a_getp (q := 29) (σ := aGs 82 [(29, 5), (29, 6), (29, 7)] r119_73) (o := 0) (T := TX6) (N := 11) C wU_X6 hw rfl (by decide) rfl 4 (by decide) rfl wF_X6_31 (aGs_P rfl rfl) dX6_init_111 ?_
  refine lv_iload_n hx hb dX6_init_114 rfl (lv_at hl 0 rfl) ?_
  refine n_new (U' := [(82, 3), (82, 4), (82, 5), (82, 6), (82, 7), (82, 8), (82, 9), (82, 10), (29, 5), (29, 6), (29, 7)]) (ci := 2) (T := TX2) (N := 11) (ty0 := tyX2) C wU_X2 tyX2_ok hw (by decide) rfl (by decide) rfl (nOk.of (N := [(82, 3), (82, 4), (82, 5), (82, 6), (82, 7), (82, 8), (82, 9), (82, 10)]) (by decide +kernel) (by decide)) (by decide) dv_X2 wK_X6_17 wN_X2 wZ_X2 (Nat.le_of_ble_eq_true rfl) (Nat.le_of_ble_eq_true rfl) dX6_init_115 (fun ad24 H hE hw => ?_)
  have hE0 : ∀ x, x < 1 ∨ 1000000 ≤ x → ad24 x = ad x := fun x hx => (hE x (by omega)).trans (hE0 x hx)
  rw [show ad23 0 = ad24 0 from (hE 0 (by decide)).symm] at hl
  rw [show ad23 29 = ad24 29 from (hE 29 (by decide)).symm]
  have hw : aW D dA ad24 adV (aGs 83 [(82, 3), (82, 4), (82, 5), (82, 6), (82, 7), (82, 8), (82, 9), (82, 10), (29, 5), (29, 6), (29, 7)] (zR r119_73 82)) A s H locs := hw
  refine lv_dup hx hb dX6_init_118 rfl ?_
  obtain ⟨r119_82, hr119_82, hM⟩ := h_b hM
  refine n_callI (σ' := aGs 91 [(29, 5), (29, 6), (29, 7)] r119_82) (o := 82) (rest := [.ref (ad24 82), .int (5 : Int32), .ref (ad24 29)]) C hY hw (ci_X2_init_82 l hr119_82) ki_X2_init wM_X6_19 ⟨⟨rfl, rfl⟩, Nat.le_of_ble_eq_true rfl, Nat.le_of_ble_eq_true rfl⟩ hl (Nat.le_of_ble_eq_true rfl) dX6_init_119 ⟨Nat.le_of_ble_eq_true rfl, Nat.le_of_ble_eq_true rfl⟩ (fun ad25 H locs hE hw => ?_)
  have hE0 : ∀ x, x < 1 ∨ 1000000 ≤ x → ad25 x = ad x := fun x hx => (hE x (by omega)).trans (hE0 x hx)
  rw [show ad24 0 = ad25 0 from (hE 0 (by decide)).symm] at hl
  rw [show ad24 29 = ad25 29 from (hE 29 (by decide)).symm]
  rw [show ad24 82 = ad25 82 from (hE 82 (by decide)).symm]
  refine n_aast (U' := [(29, 6), (29, 7)]) (o := 29) (q := 82) (j := 5) C hw (by decide) (by decide) rfl rfl (aIn_v (by decide)) (by decide) rfl (uDel_1 (U := [(29, 5), (29, 6), (29, 7)])) (uDel_2 (U := [(29, 5), (29, 6), (29, 7)])) dX6_init_122 (fun H locs hw => ?_)
  have hw : aW D dA ad25 adV (aGs 91 [(29, 6), (29, 7)] r119_82) A s H locs := hw
  refine lv_iinc (v := (6 : Int32)) (lv' := [(1, .int (6 : Int32)), (0, .ref (ad25 0))]) hx hb dX6_init_123 hl (k := 0) rfl rfl (by decide) rfl (fun ls hl => ?_)
  refine lv_goto (tgt := 101) hx hb dX6_init_126 (by decide) ?_
  refine lv_iload_n hx hb dX6_init_101 rfl (lv_at hl 0 rfl) ?_
  refine lv_aload_n hx hb dX6_init_102 rfl (lv_at hl 1 rfl) ?_
  refine a_getp (q := 29) (σ := aGs 91 [(29, 6), (29, 7)] r119_82) (o := 0) (T := TX6) (N := 11) C wU_X6 hw rfl (by decide) rfl 4 (by decide) rfl wF_X6_31 (aGs_P rfl rfl) dX6_init_103 ?_
  refine a_alenq (σ := aGs 91 [(29, 6), (29, 7)] r119_82) (o := 29) (v := (8 : Int32)) C hw rfl (by decide) dX6_init_106 ?_
  refine lv_icmp_ge (tgt := 129) hx hb dX6_init_107 (by decide) (fun hc => absurd hc (by decide)) (fun hc => ?_)
  refine lv_aload_n hx hb dX6_init_110 rfl (lv_at hl 1 rfl) ?_
  refine a_getp (q := 29) (σ := aGs 91 [(29, 6), (29, 7)] r119_82) (o := 0) (T := TX6) (N := 11) C wU_X6 hw rfl (by decide) rfl 4 (by decide) rfl wF_X6_31 (aGs_P rfl rfl) dX6_init_111 ?_
  refine lv_iload_n hx hb dX6_init_114 rfl (lv_at hl 0 rfl) ?_
  refine n_new (U' := [(91, 3), (91, 4), (91, 5), (91, 6), (91, 7), (91, 8), (91, 9), (91, 10), (29, 6), (29, 7)]) (ci := 2) (T := TX2) (N := 11) (ty0 := tyX2) C wU_X2 tyX2_ok hw (by decide) rfl (by decide) rfl (nOk.of (N := [(91, 3), (91, 4), (91, 5), (91, 6), (91, 7), (91, 8), (91, 9), (91, 10)]) (by decide +kernel) (by decide)) (by decide) dv_X2 wK_X6_17 wN_X2 wZ_X2 (Nat.le_of_ble_eq_true rfl) (Nat.le_of_ble_eq_true rfl) dX6_init_115 (fun ad26 H hE hw => ?_)
  have hE0 : ∀ x, x < 1 ∨ 1000000 ≤ x → ad26 x = ad x := fun x hx => (hE x (by omega)).trans (hE0 x hx)
  rw [show ad25 0 = ad26 0 from (hE 0 (by decide)).symm] at hl
  rw [show ad25 29 = ad26 29 from (hE 29 (by decide)).symm]
  have hw : aW D dA ad26 adV (aGs 92 [(91, 3), (91, 4), (91, 5), (91, 6), (91, 7), (91, 8), (91, 9), (91, 10), (29, 6), (29, 7)] (zR r119_82 91)) A s H locs := hw
  refine lv_dup hx hb dX6_init_118 rfl ?_
  obtain ⟨r119_91, hr119_91, hM⟩ := h_b hM
  refine n_callI (σ' := aGs 100 [(29, 6), (29, 7)] r119_91) (o := 91) (rest := [.ref (ad26 91), .int (6 : Int32), .ref (ad26 29)]) C hY hw (ci_X2_init_91 l hr119_91) ki_X2_init wM_X6_19 ⟨⟨rfl, rfl⟩, Nat.le_of_ble_eq_true rfl, Nat.le_of_ble_eq_true rfl⟩ hl (Nat.le_of_ble_eq_true rfl) dX6_init_119 ⟨Nat.le_of_ble_eq_true rfl, Nat.le_of_ble_eq_true rfl⟩ (fun ad27 H locs hE hw => ?_)
  have hE0 : ∀ x, x < 1 ∨ 1000000 ≤ x → ad27 x = ad x := fun x hx => (hE x (by omega)).trans (hE0 x hx)
  rw [show ad26 0 = ad27 0 from (hE 0 (by decide)).symm] at hl
  rw [show ad26 29 = ad27 29 from (hE 29 (by decide)).symm]
  rw [show ad26 91 = ad27 91 from (hE 91 (by decide)).symm]
  refine n_aast (U' := [(29, 7)]) (o := 29) (q := 91) (j := 6) C hw (by decide) (by decide) rfl rfl (aIn_v (by decide)) (by decide) rfl (uDel_1 (U := [(29, 6), (29, 7)])) (uDel_2 (U := [(29, 6), (29, 7)])) dX6_init_122 (fun H locs hw => ?_)
  have hw : aW D dA ad27 adV (aGs 100 [(29, 7)] r119_91) A s H locs := hw
  refine lv_iinc (v := (7 : Int32)) (lv' := [(1, .int (7 : Int32)), (0, .ref (ad27 0))]) hx hb dX6_init_123 hl (k := 0) rfl rfl (by decide) rfl (fun ls hl => ?_)
  refine lv_goto (tgt := 101) hx hb dX6_init_126 (by decide) ?_
  refine lv_iload_n hx hb dX6_init_101 rfl (lv_at hl 0 rfl) ?_
  refine lv_aload_n hx hb dX6_init_102 rfl (lv_at hl 1 rfl) ?_
  refine a_getp (q := 29) (σ := aGs 100 [(29, 7)] r119_91) (o := 0) (T := TX6) (N := 11) C wU_X6 hw rfl (by decide) rfl 4 (by decide) rfl wF_X6_31 (aGs_P rfl rfl) dX6_init_103 ?_
  refine a_alenq (σ := aGs 100 [(29, 7)] r119_91) (o := 29) (v := (8 : Int32)) C hw rfl (by decide) dX6_init_106 ?_
  refine lv_icmp_ge (tgt := 129) hx hb dX6_init_107 (by decide) (fun hc => absurd hc (by decide)) (fun hc => ?_)
  refine lv_aload_n hx hb dX6_init_110 rfl (lv_at hl 1 rfl) ?_
  refine a_getp (q := 29) (σ := aGs 100 [(29, 7)] r119_91) (o := 0) (T := TX6) (N := 11) C wU_X6 hw rfl (by decide) rfl 4 (by decide) rfl wF_X6_31 (aGs_P rfl rfl) dX6_init_111 ?_
  refine lv_iload_n hx hb dX6_init_114 rfl (lv_at hl 0 rfl) ?_
  refine n_new (U' := [(100, 3), (100, 4), (100, 5), (100, 6), (100, 7), (100, 8), (100, 9), (100, 10), (29, 7)]) (ci := 2) (T := TX2) (N := 11) (ty0 := tyX2) C wU_X2 tyX2_ok hw (by decide) rfl (by decide) rfl (nOk.of (N := [(100, 3), (100, 4), (100, 5), (100, 6), (100, 7), (100, 8), (100, 9), (100, 10)]) (by decide +kernel) (by decide)) (by decide) dv_X2 wK_X6_17 wN_X2 wZ_X2 (Nat.le_of_ble_eq_true rfl) (Nat.le_of_ble_eq_true rfl) dX6_init_115 (fun ad28 H hE hw => ?_)
  have hE0 : ∀ x, x < 1 ∨ 1000000 ≤ x → ad28 x = ad x := fun x hx => (hE x (by omega)).trans (hE0 x hx)
  rw [show ad27 0 = ad28 0 from (hE 0 (by decide)).symm] at hl
  rw [show ad27 29 = ad28 29 from (hE 29 (by decide)).symm]
  have hw : aW D dA ad28 adV (aGs 101 [(100, 3), (100, 4), (100, 5), (100, 6), (100, 7), (100, 8), (100, 9), (100, 10), (29, 7)] (zR r119_91 100)) A s H locs := hw
  refine lv_dup hx hb dX6_init_118 rfl ?_
  obtain ⟨r119_100, hr119_100, hM⟩ := h_b hM
  refine n_callI (σ' := aGs 109 [(29, 7)] r119_100) (o := 100) (rest := [.ref (ad28 100), .int (7 : Int32), .ref (ad28 29)]) C hY hw (ci_X2_init_100 l hr119_100) ki_X2_init wM_X6_19 ⟨⟨rfl, rfl⟩, Nat.le_of_ble_eq_true rfl, Nat.le_of_ble_eq_true rfl⟩ hl (Nat.le_of_ble_eq_true rfl) dX6_init_119 ⟨Nat.le_of_ble_eq_true rfl, Nat.le_of_ble_eq_true rfl⟩ (fun ad29 H locs hE hw => ?_)
  have hE0 : ∀ x, x < 1 ∨ 1000000 ≤ x → ad29 x = ad x := fun x hx => (hE x (by omega)).trans (hE0 x hx)
  rw [show ad28 0 = ad29 0 from (hE 0 (by decide)).symm] at hl
  rw [show ad28 29 = ad29 29 from (hE 29 (by decide)).symm]
  rw [show ad28 100 = ad29 100 from (hE 100 (by decide)).symm]
  refine n_aast (U' := ([] : List (Nat × Nat))) (o := 29) (q := 100) (j := 7) C hw (by decide) (by decide) rfl rfl (aIn_v (by decide)) (by decide) rfl (uDel_1 (U := [(29, 7)])) (uDel_2 (U := [(29, 7)])) dX6_init_122 (fun H locs hw => ?_)
  have hw : aW D dA ad29 adV (aGs 109 ([] : List (Nat × Nat)) r119_100) A s H locs := hw
  refine lv_iinc (v := (8 : Int32)) (lv' := [(1, .int (8 : Int32)), (0, .ref (ad29 0))]) hx hb dX6_init_123 hl (k := 0) rfl rfl (by decide) rfl (fun ls hl => ?_)
  refine lv_goto (tgt := 101) hx hb dX6_init_126 (by decide) ?_
  refine lv_iload_n hx hb dX6_init_101 rfl (lv_at hl 0 rfl) ?_
  refine lv_aload_n hx hb dX6_init_102 rfl (lv_at hl 1 rfl) ?_
  refine a_getp (q := 29) (σ := aGs 109 ([] : List (Nat × Nat)) r119_100) (o := 0) (T := TX6) (N := 11) C wU_X6 hw rfl (by decide) rfl 4 (by decide) rfl wF_X6_31 (aGs_P rfl rfl) dX6_init_103 ?_
  refine a_alenq (σ := aGs 109 ([] : List (Nat × Nat)) r119_100) (o := 29) (v := (8 : Int32)) C hw rfl (by decide) dX6_init_106 ?_
  refine lv_icmp_ge (tgt := 129) hx hb dX6_init_107 (by decide) (fun hc => ?_) (fun hc => absurd (by decide) hc)
  refine lv_aload_n hx hb dX6_init_129 rfl (lv_at hl 1 rfl) ?_
  refine a_getp (q := 2) (σ := aGs 109 ([] : List (Nat × Nat)) r119_100) (o := 0) (T := TX6) (N := 11) C wU_X6 hw rfl (by decide) rfl 2 (by decide) rfl wF_X6_20 (aGs_P rfl rfl) dX6_init_130 ?_
  refine lv_iconst (v := (1 : Int32)) hx hb dX6_init_133 (by decide) ?_
  refine a_puti (ty := .int) (σ := aGs 109 ([] : List (Nat × Nat)) r119_100) (o := 2) (T := TX2) (N := 11) (ty0 := tyX2) C wU_X2 tyX2_ok nmX2 hw rfl (by decide) rfl 0 (by decide) rfl wF_X6_62 rfl (by decide +kernel) rfl rfl dX6_init_134 (fun H locs hw => ?_)
  have hw : aW D dA ad29 adV (aGs 109 ([] : List (Nat × Nat)) (pI r119_100 2 0 (1 : Int32))) A s H locs := by rw [aGs_PI] at hw; exact hw
  refine lv_aload_n hx hb dX6_init_137 rfl (lv_at hl 1 rfl) ?_
  refine a_getp (q := 2) (σ := aGs 109 ([] : List (Nat × Nat)) (pI r119_100 2 0 (1 : Int32))) (o := 0) (T := TX6) (N := 11) C wU_X6 hw rfl (by decide) rfl 2 (by decide) rfl wF_X6_20 (aGs_P rfl rfl) dX6_init_138 ?_
  refine a_getp (q := 3) (σ := aGs 109 ([] : List (Nat × Nat)) (pI r119_100 2 0 (1 : Int32))) (o := 2) (T := TX2) (N := 11) C wU_X2 hw rfl (by decide) rfl 3 (by decide) rfl wF_X6_65 (aGs_P rfl rfl) dX6_init_141 ?_
  refine lv_iconst (v := (0 : Int32)) hx hb dX6_init_144 (by decide) ?_
  refine lv_iconst (v := (5 : Int32)) hx hb dX6_init_145 (by decide) ?_
  refine a_iast (σ := aGs 109 ([] : List (Nat × Nat)) (pI r119_100 2 0 (1 : Int32))) (o := 3) (j := 0) C hw rfl (aIn_v (by decide)) (by decide) dX6_init_146 (fun H locs hw => ?_)
  have hw : aW D dA ad29 adV (aGs 109 ([] : List (Nat × Nat)) (pI (pI r119_100 2 0 (1 : Int32)) 3 0 (5 : Int32))) A s H locs := by rw [aGs_PI] at hw; exact hw
  refine lv_aload_n hx hb dX6_init_147 rfl (lv_at hl 1 rfl) ?_
  refine a_getp (q := 2) (σ := aGs 109 ([] : List (Nat × Nat)) (pI (pI r119_100 2 0 (1 : Int32)) 3 0 (5 : Int32))) (o := 0) (T := TX6) (N := 11) C wU_X6 hw rfl (by decide) rfl 2 (by decide) rfl wF_X6_20 (aGs_P rfl rfl) dX6_init_148 ?_
  refine a_getp (q := 4) (σ := aGs 109 ([] : List (Nat × Nat)) (pI (pI r119_100 2 0 (1 : Int32)) 3 0 (5 : Int32))) (o := 2) (T := TX2) (N := 11) C wU_X2 hw rfl (by decide) rfl 4 (by decide) rfl wF_X6_68 (aGs_P rfl rfl) dX6_init_151 ?_
  refine lv_iconst (v := (0 : Int32)) hx hb dX6_init_154 (by decide) ?_
  refine lv_iconst (v := (5 : Int32)) hx hb dX6_init_155 (by decide) ?_
  refine a_iast (σ := aGs 109 ([] : List (Nat × Nat)) (pI (pI r119_100 2 0 (1 : Int32)) 3 0 (5 : Int32))) (o := 4) (j := 0) C hw rfl (aIn_v (by decide)) (by decide) dX6_init_156 (fun H locs hw => ?_)
  have hw : aW D dA ad29 adV (aGs 109 ([] : List (Nat × Nat)) (pI (pI (pI r119_100 2 0 (1 : Int32)) 3 0 (5 : Int32)) 4 0 (5 : Int32))) A s H locs := by rw [aGs_PI] at hw; exact hw
  refine lv_aload_n hx hb dX6_init_157 rfl (lv_at hl 1 rfl) ?_
  refine a_getp (q := 2) (σ := aGs 109 ([] : List (Nat × Nat)) (pI (pI (pI r119_100 2 0 (1 : Int32)) 3 0 (5 : Int32)) 4 0 (5 : Int32))) (o := 0) (T := TX6) (N := 11) C wU_X6 hw rfl (by decide) rfl 2 (by decide) rfl wF_X6_20 (aGs_P rfl rfl) dX6_init_158 ?_
  refine a_getp (q := 5) (σ := aGs 109 ([] : List (Nat × Nat)) (pI (pI (pI r119_100 2 0 (1 : Int32)) 3 0 (5 : Int32)) 4 0 (5 : Int32))) (o := 2) (T := TX2) (N := 11) C wU_X2 hw rfl (by decide) rfl 5 (by decide) rfl wF_X6_71 (aGs_P rfl rfl) dX6_init_161 ?_
  refine lv_iconst (v := (0 : Int32)) hx hb dX6_init_164 (by decide) ?_
  refine lv_iconst (v := (3 : Int32)) hx hb dX6_init_165 (by decide) ?_
  refine a_iast (σ := aGs 109 ([] : List (Nat × Nat)) (pI (pI (pI r119_100 2 0 (1 : Int32)) 3 0 (5 : Int32)) 4 0 (5 : Int32))) (o := 5) (j := 0) C hw rfl (aIn_v (by decide)) (by decide) dX6_init_166 (fun H locs hw => ?_)
  have hw : aW D dA ad29 adV (aGs 109 ([] : List (Nat × Nat)) (pI (pI (pI (pI r119_100 2 0 (1 : Int32)) 3 0 (5 : Int32)) 4 0 (5 : Int32)) 5 0 (3 : Int32))) A s H locs := by rw [aGs_PI] at hw; exact hw
  refine lv_aload_n hx hb dX6_init_167 rfl (lv_at hl 1 rfl) ?_
  refine a_getp (q := 11) (σ := aGs 109 ([] : List (Nat × Nat)) (pI (pI (pI (pI r119_100 2 0 (1 : Int32)) 3 0 (5 : Int32)) 4 0 (5 : Int32)) 5 0 (3 : Int32))) (o := 0) (T := TX6) (N := 11) C wU_X6 hw rfl (by decide) rfl 3 (by decide) rfl wF_X6_27 (aGs_P rfl rfl) dX6_init_168 ?_
  refine a_getp (q := 21) (σ := aGs 109 ([] : List (Nat × Nat)) (pI (pI (pI (pI r119_100 2 0 (1 : Int32)) 3 0 (5 : Int32)) 4 0 (5 : Int32)) 5 0 (3 : Int32))) (o := 11) (T := TX3) (N := 7) C wU_X3 hw rfl (by decide) rfl 1 (by decide) rfl wF_X6_74 (aGs_P rfl rfl) dX6_init_171 ?_
  refine lv_aload_n hx hb dX6_init_174 rfl (lv_at hl 1 rfl) ?_
  refine a_getp (q := 2) (σ := aGs 109 ([] : List (Nat × Nat)) (pI (pI (pI (pI r119_100 2 0 (1 : Int32)) 3 0 (5 : Int32)) 4 0 (5 : Int32)) 5 0 (3 : Int32))) (o := 0) (T := TX6) (N := 11) C wU_X6 hw rfl (by decide) rfl 2 (by decide) rfl wF_X6_20 (aGs_P rfl rfl) dX6_init_175 ?_
  obtain ⟨r178, hr178, hM⟩ := h_b hM
  refine a_callV (σ' := aGs 109 ([] : List (Nat × Nat)) r178) (v := none) (o := 21) (As := fun ad => [.ref (ad 2)]) (rest := []) C hw (cs_X1_rate l linS2 hr178) k_X1_rate wM_X6_78 ⟨⟨rfl, rfl⟩, Nat.le_of_ble_eq_true rfl, Nat.le_of_ble_eq_true rfl⟩ rfl (by decide) rfl rfl rfl hl rfl (by decide) dX6_init_178 ⟨Nat.le_of_ble_eq_true rfl, Nat.le_of_ble_eq_true rfl⟩ (fun H locs hw => ?_)
  refine lv_aload_n hx hb dX6_init_181 rfl (lv_at hl 1 rfl) ?_
  refine a_getp (q := 2) (σ := aGs 109 ([] : List (Nat × Nat)) r178) (o := 0) (T := TX6) (N := 11) C wU_X6 hw rfl (by decide) rfl 2 (by decide) rfl wF_X6_20 (aGs_P rfl rfl) dX6_init_182 ?_
  obtain ⟨r185, hr185, hM⟩ := h_b hM
  refine a_callV (σ' := aGs 109 ([] : List (Nat × Nat)) r185) (v := none) (o := 2) (As := fun ad => []) (rest := []) C hw (cs_X2_showFirst l linS2 hr185) k_X2_showFirst wM_X6_84 ⟨⟨rfl, rfl⟩, Nat.le_of_ble_eq_true rfl, Nat.le_of_ble_eq_true rfl⟩ rfl (by decide) rfl rfl rfl hl rfl (by decide) dX6_init_185 ⟨Nat.le_of_ble_eq_true rfl, Nat.le_of_ble_eq_true rfl⟩ (fun H locs hw => ?_)
  cases h_e hM
  exact n_ret C hE0 hw dX6_init_188
def mi_X7 (ι : iS) : Option iS := Option.bind (m_X7_begins 112 (zR (zR (zM (zR (zR (zR (pI (zR ι 110) 109 5 (-1 : Int32)) 111) 112) 113)) 123) 124)) fun r77 => some (pI (pI (pI (pI (pI (pI r77 112 0 (1 : Int32)) 112 2 (1 : Int32)) 112 9 (5 : Int32)) 112 89 (5 : Int32)) 112 94 (3 : Int32)) 112 3 (1 : Int32))
def rm_X7_init : Room := { frames := 1, cells := 15, slots := 10109, locals := 21 }
set_option maxHeartbeats 400000 in
set_option maxRecDepth 100000 in
theorem ci_X7_init_109 (l : Launch) {ι res : iS} (hM : mi_X7 ι = some res) : aMn l yX7_init cX7_init 1 rm_X7_init (fun ad => [.ref (ad 109)]) 110 (aGs 110 [(109, 1), (109, 8), (109, 9), (109, 10), (109, 11), (109, 16), (109, 17)] ι) (aGs 125 ([] : List (Nat × Nat)) res) 15 10109 := by
  refine aMn.of (by decide) rfl (fun _ => Nat.le_of_ble_eq_true rfl) ?_
  intro p e s m args below meth c D dA ad adV A ls C hin hY hw hl
  have C : aX p m c cX7_init 1 s args aTs RX7 meth none := C
  have hx := C.1.1
  have hb := C.1.2.1
  have hown := C.1.2.2.2.1
  have hts := C.1.2.2.2.2
  have hl : lv_has ls 1 [(0, .ref (ad 109))] := hl
  replace hM : (Option.bind (m_X7_begins 112 (zR (zR (zM (zR (zR (zR (pI (zR ι 110) 109 5 (-1 : Int32)) 111) 112) 113)) 123) 124)) fun r77 => some (pI (pI (pI (pI (pI (pI r77 112 0 (1 : Int32)) 112 2 (1 : Int32)) 112 9 (5 : Int32)) 112 89 (5 : Int32)) 112 94 (3 : Int32)) 112 3 (1 : Int32))) = some res := hM
  refine lv_aload_n hx hb dX7_init_0 rfl (lv_at hl 0 rfl) ?_
  refine n_obj C wM_X7_3 hl dX7_init_1 (Nat.le_of_ble_eq_true rfl) (Nat.le_of_ble_eq_true rfl) ?_
  refine lv_aload_n hx hb dX7_init_4 rfl (lv_at hl 0 rfl) ?_
  refine lv_iconst (v := (3 : Int32)) hx hb dX7_init_5 (by decide) ?_
  refine n_newa (U' := [(109, 1), (109, 8), (109, 9), (109, 10), (109, 11), (109, 16), (109, 17)]) (ty := .int) (t := 9) C hw (by decide) rfl (nOk.of (N := ([] : List (Nat × Nat))) (by decide +kernel) (by decide)) wA_9 rfl rfl (Or.inr (Or.inl ⟨rfl, rfl⟩)) (by decide) (by decide) (by decide) (Nat.le_of_ble_eq_true rfl) (Nat.le_of_ble_eq_true rfl) dX7_init_6 (fun ad1 H hE hw => ?_)
  have hE0 : ∀ x, x < 110 ∨ 1000000 ≤ x → ad1 x = ad x := fun x hx => (hE x (by omega)).trans (rfl)
  rw [show ad 109 = ad1 109 from (hE 109 (by decide)).symm] at hl
  rw [show ad 109 = ad1 109 from (hE 109 (by decide)).symm]
  have hw : aW D dA ad1 adV (aGs 111 [(109, 1), (109, 8), (109, 9), (109, 10), (109, 11), (109, 16), (109, 17)] (zR ι 110)) A s H [] := hw
  refine n_putF (U' := [(109, 8), (109, 9), (109, 10), (109, 11), (109, 16), (109, 17)]) (ty := .array .int) (o := 109) (q := 110) (T := TX7) (N := 20) (ty0 := tyX7) C hin wU_X7 tyX7_ok nmX7 hw (by decide) rfl (by decide) rfl 1 (by decide) rfl wF_X7_9 rfl rfl (by decide +kernel) rfl rfl rfl (uDel_1 (U := [(109, 1), (109, 8), (109, 9), (109, 10), (109, 11), (109, 16), (109, 17)])) (uDel_2 (U := [(109, 1), (109, 8), (109, 9), (109, 10), (109, 11), (109, 16), (109, 17)])) dX7_init_8 (fun H locs hw => ?_)
  have hw : aW D dA ad1 adV (aGs 111 [(109, 8), (109, 9), (109, 10), (109, 11), (109, 16), (109, 17)] (zR ι 110)) A s H locs := hw
  refine lv_aload_n hx hb dX7_init_11 rfl (lv_at hl 0 rfl) ?_
  refine lv_iconst (v := (-1 : Int32)) hx hb dX7_init_12 (by decide) ?_
  refine a_puti (ty := .int) (σ := aGs 111 [(109, 8), (109, 9), (109, 10), (109, 11), (109, 16), (109, 17)] (zR ι 110)) (o := 109) (T := TX7) (N := 20) (ty0 := tyX7) C wU_X7 tyX7_ok nmX7 hw rfl (by decide) rfl 5 (by decide) rfl wF_X7_13 rfl (by decide +kernel) rfl rfl dX7_init_13 (fun H locs hw => ?_)
  have hw : aW D dA ad1 adV (aGs 111 [(109, 8), (109, 9), (109, 10), (109, 11), (109, 16), (109, 17)] (pI (zR ι 110) 109 5 (-1 : Int32))) A s H locs := by rw [aGs_PI] at hw; exact hw
  refine lv_aload_n hx hb dX7_init_16 rfl (lv_at hl 0 rfl) ?_
  refine lv_sipush (v := (500 : Int32)) hx hb dX7_init_17 (by decide) ?_
  refine n_newa (U' := [(109, 8), (109, 9), (109, 10), (109, 11), (109, 16), (109, 17)]) (ty := .int) (t := 9) C hw (by decide) rfl (nOk.of (N := ([] : List (Nat × Nat))) (by decide +kernel) (by decide)) wA_9 rfl rfl (Or.inr (Or.inl ⟨rfl, rfl⟩)) (by decide) (by decide) (by decide) (Nat.le_of_ble_eq_true rfl) (Nat.le_of_ble_eq_true rfl) dX7_init_20 (fun ad2 H hE hw => ?_)
  have hE0 : ∀ x, x < 110 ∨ 1000000 ≤ x → ad2 x = ad x := fun x hx => (hE x (by omega)).trans (hE0 x hx)
  rw [show ad1 109 = ad2 109 from (hE 109 (by decide)).symm] at hl
  rw [show ad1 109 = ad2 109 from (hE 109 (by decide)).symm]
  have hw : aW D dA ad2 adV (aGs 112 [(109, 8), (109, 9), (109, 10), (109, 11), (109, 16), (109, 17)] (zR (pI (zR ι 110) 109 5 (-1 : Int32)) 111)) A s H locs := hw
  refine n_putF (U' := [(109, 9), (109, 10), (109, 11), (109, 16), (109, 17)]) (ty := .array .int) (o := 109) (q := 111) (T := TX7) (N := 20) (ty0 := tyX7) C hin wU_X7 tyX7_ok nmX7 hw (by decide) rfl (by decide) rfl 8 (by decide) rfl wF_X7_17 rfl rfl (by decide +kernel) rfl rfl rfl (uDel_1 (U := [(109, 8), (109, 9), (109, 10), (109, 11), (109, 16), (109, 17)])) (uDel_2 (U := [(109, 8), (109, 9), (109, 10), (109, 11), (109, 16), (109, 17)])) dX7_init_22 (fun H locs hw => ?_)
  have hw : aW D dA ad2 adV (aGs 112 [(109, 9), (109, 10), (109, 11), (109, 16), (109, 17)] (zR (pI (zR ι 110) 109 5 (-1 : Int32)) 111)) A s H locs := hw
  refine lv_aload_n hx hb dX7_init_25 rfl (lv_at hl 0 rfl) ?_
  refine lv_sipush (v := (883 : Int32)) hx hb dX7_init_26 (by decide) ?_
  refine n_newa (U' := [(109, 9), (109, 10), (109, 11), (109, 16), (109, 17)]) (ty := .int) (t := 9) C hw (by decide) rfl (nOk.of (N := ([] : List (Nat × Nat))) (by decide +kernel) (by decide)) wA_9 rfl rfl (Or.inr (Or.inl ⟨rfl, rfl⟩)) (by decide) (by decide) (by decide) (Nat.le_of_ble_eq_true rfl) (Nat.le_of_ble_eq_true rfl) dX7_init_29 (fun ad3 H hE hw => ?_)
  have hE0 : ∀ x, x < 110 ∨ 1000000 ≤ x → ad3 x = ad x := fun x hx => (hE x (by omega)).trans (hE0 x hx)
  rw [show ad2 109 = ad3 109 from (hE 109 (by decide)).symm] at hl
  rw [show ad2 109 = ad3 109 from (hE 109 (by decide)).symm]
  have hw : aW D dA ad3 adV (aGs 113 [(109, 9), (109, 10), (109, 11), (109, 16), (109, 17)] (zR (zR (pI (zR ι 110) 109 5 (-1 : Int32)) 111) 112)) A s H locs := hw
  refine n_putF (U' := [(109, 10), (109, 11), (109, 16), (109, 17)]) (ty := .array .int) (o := 109) (q := 112) (T := TX7) (N := 20) (ty0 := tyX7) C hin wU_X7 tyX7_ok nmX7 hw (by decide) rfl (by decide) rfl 9 (by decide) rfl wF_X7_20 rfl rfl (by decide +kernel) rfl rfl rfl (uDel_1 (U := [(109, 9), (109, 10), (109, 11), (109, 16), (109, 17)])) (uDel_2 (U := [(109, 9), (109, 10), (109, 11), (109, 16), (109, 17)])) dX7_init_31 (fun H locs hw => ?_)
  have hw : aW D dA ad3 adV (aGs 113 [(109, 10), (109, 11), (109, 16), (109, 17)] (zR (zR (pI (zR ι 110) 109 5 (-1 : Int32)) 111) 112)) A s H locs := hw
  refine lv_aload_n hx hb dX7_init_34 rfl (lv_at hl 0 rfl) ?_
  refine lv_sipush (v := (883 : Int32)) hx hb dX7_init_35 (by decide) ?_
  refine n_newa (U' := [(109, 10), (109, 11), (109, 16), (109, 17)]) (ty := .int) (t := 9) C hw (by decide) rfl (nOk.of (N := ([] : List (Nat × Nat))) (by decide +kernel) (by decide)) wA_9 rfl rfl (Or.inr (Or.inl ⟨rfl, rfl⟩)) (by decide) (by decide) (by decide) (Nat.le_of_ble_eq_true rfl) (Nat.le_of_ble_eq_true rfl) dX7_init_38 (fun ad4 H hE hw => ?_)
  have hE0 : ∀ x, x < 110 ∨ 1000000 ≤ x → ad4 x = ad x := fun x hx => (hE x (by omega)).trans (hE0 x hx)
  rw [show ad3 109 = ad4 109 from (hE 109 (by decide)).symm] at hl
  rw [show ad3 109 = ad4 109 from (hE 109 (by decide)).symm]
  have hw : aW D dA ad4 adV (aGs 114 [(109, 10), (109, 11), (109, 16), (109, 17)] (zR (zR (zR (pI (zR ι 110) 109 5 (-1 : Int32)) 111) 112) 113)) A s H locs := hw
  refine n_putF (U' := [(109, 11), (109, 16), (109, 17)]) (ty := .array .int) (o := 109) (q := 113) (T := TX7) (N := 20) (ty0 := tyX7) C hin wU_X7 tyX7_ok nmX7 hw (by decide) rfl (by decide) rfl 10 (by decide) rfl wF_X7_23 rfl rfl (by decide +kernel) rfl rfl rfl (uDel_1 (U := [(109, 10), (109, 11), (109, 16), (109, 17)])) (uDel_2 (U := [(109, 10), (109, 11), (109, 16), (109, 17)])) dX7_init_40 (fun H locs hw => ?_)
  have hw : aW D dA ad4 adV (aGs 114 [(109, 11), (109, 16), (109, 17)] (zR (zR (zR (pI (zR ι 110) 109 5 (-1 : Int32)) 111) 112) 113)) A s H locs := hw
  refine lv_aload_n hx hb dX7_init_43 rfl (lv_at hl 0 rfl) ?_
  refine lv_bipush (v := (8 : Int32)) hx hb dX7_init_44 (by decide) ?_
  refine lv_sipush (v := (883 : Int32)) hx hb dX7_init_46 (by decide) ?_
  refine n_mna C hY hw (fun j => noU (by decide) j) (by decide +kernel) wK_X7_26 (Nat.le_of_ble_eq_true rfl) (Nat.le_of_ble_eq_true rfl) dX7_init_49 (fun ad5 H hE hw => ?_)
  have hE0 : ∀ x, x < 110 ∨ 1000000 ≤ x → ad5 x = ad x := fun x hx => (hE x (by omega)).trans (hE0 x hx)
  rw [show ad4 109 = ad5 109 from (hE 109 (by decide)).symm] at hl
  rw [show ad4 109 = ad5 109 from (hE 109 (by decide)).symm]
  have hw : aW D dA ad5 adV (aGs 123 [(109, 11), (109, 16), (109, 17)] (zM (zR (zR (zR (pI (zR ι 110) 109 5 (-1 : Int32)) 111) 112) 113))) A s H locs := hw
  refine n_putF (U' := [(109, 16), (109, 17)]) (ty := .array (.array .int)) (o := 109) (q := 114) (T := TX7) (N := 20) (ty0 := tyX7) C hin wU_X7 tyX7_ok nmX7 hw (by decide) rfl (by decide) rfl 11 (by decide) rfl wF_X7_28 rfl rfl (by decide +kernel) rfl rfl rfl (uDel_1 (U := [(109, 11), (109, 16), (109, 17)])) (uDel_2 (U := [(109, 11), (109, 16), (109, 17)])) dX7_init_53 (fun H locs hw => ?_)
  have hw : aW D dA ad5 adV (aGs 123 [(109, 16), (109, 17)] (zM (zR (zR (zR (pI (zR ι 110) 109 5 (-1 : Int32)) 111) 112) 113))) A s H locs := hw
  refine lv_aload_n hx hb dX7_init_56 rfl (lv_at hl 0 rfl) ?_
  refine lv_sipush (v := (760 : Int32)) hx hb dX7_init_57 (by decide) ?_
  refine n_newa (U' := [(109, 16), (109, 17)]) (ty := .long) (t := 10) C hw (by decide) rfl (nOk.of (N := ([] : List (Nat × Nat))) (by decide +kernel) (by decide)) wA_10 rfl rfl (Or.inr (Or.inr ⟨rfl, rfl⟩)) (by decide) (by decide) (by decide) (Nat.le_of_ble_eq_true rfl) (Nat.le_of_ble_eq_true rfl) dX7_init_60 (fun ad6 H hE hw => ?_)
  have hE0 : ∀ x, x < 110 ∨ 1000000 ≤ x → ad6 x = ad x := fun x hx => (hE x (by omega)).trans (hE0 x hx)
  rw [show ad5 109 = ad6 109 from (hE 109 (by decide)).symm] at hl
  rw [show ad5 109 = ad6 109 from (hE 109 (by decide)).symm]
  have hw : aW D dA ad6 adV (aGs 124 [(109, 16), (109, 17)] (zR (zM (zR (zR (zR (pI (zR ι 110) 109 5 (-1 : Int32)) 111) 112) 113)) 123)) A s H locs := hw
  refine n_putF (U' := [(109, 17)]) (ty := .array .long) (o := 109) (q := 123) (T := TX7) (N := 20) (ty0 := tyX7) C hin wU_X7 tyX7_ok nmX7 hw (by decide) rfl (by decide) rfl 16 (by decide) rfl wF_X7_31 rfl rfl (by decide +kernel) rfl rfl rfl (uDel_1 (U := [(109, 16), (109, 17)])) (uDel_2 (U := [(109, 16), (109, 17)])) dX7_init_62 (fun H locs hw => ?_)
  have hw : aW D dA ad6 adV (aGs 124 [(109, 17)] (zR (zM (zR (zR (zR (pI (zR ι 110) 109 5 (-1 : Int32)) 111) 112) 113)) 123)) A s H locs := hw
  refine lv_aload_n hx hb dX7_init_65 rfl (lv_at hl 0 rfl) ?_
  refine lv_bipush (v := (8 : Int32)) hx hb dX7_init_66 (by decide) ?_
  refine n_newa (U' := [(109, 17)]) (ty := .int) (t := 9) C hw (by decide) rfl (nOk.of (N := ([] : List (Nat × Nat))) (by decide +kernel) (by decide)) wA_9 rfl rfl (Or.inr (Or.inl ⟨rfl, rfl⟩)) (by decide) (by decide) (by decide) (Nat.le_of_ble_eq_true rfl) (Nat.le_of_ble_eq_true rfl) dX7_init_68 (fun ad7 H hE hw => ?_)
  have hE0 : ∀ x, x < 110 ∨ 1000000 ≤ x → ad7 x = ad x := fun x hx => (hE x (by omega)).trans (hE0 x hx)
  rw [show ad6 109 = ad7 109 from (hE 109 (by decide)).symm] at hl
  rw [show ad6 109 = ad7 109 from (hE 109 (by decide)).symm]
  have hw : aW D dA ad7 adV (aGs 125 [(109, 17)] (zR (zR (zM (zR (zR (zR (pI (zR ι 110) 109 5 (-1 : Int32)) 111) 112) 113)) 123) 124)) A s H locs := hw
  refine n_putF (U' := ([] : List (Nat × Nat))) (ty := .array .int) (o := 109) (q := 124) (T := TX7) (N := 20) (ty0 := tyX7) C hin wU_X7 tyX7_ok nmX7 hw (by decide) rfl (by decide) rfl 17 (by decide) rfl wF_X7_35 rfl rfl (by decide +kernel) rfl rfl rfl (uDel_1 (U := [(109, 17)])) (uDel_2 (U := [(109, 17)])) dX7_init_70 (fun H locs hw => ?_)
  have hw : aW D dA ad7 adV (aGs 125 ([] : List (Nat × Nat)) (zR (zR (zM (zR (zR (zR (pI (zR ι 110) 109 5 (-1 : Int32)) 111) 112) 113)) 123) 124)) A s H locs := hw
  refine lv_aload_n hx hb dX7_init_73 rfl (lv_at hl 0 rfl) ?_
  refine a_getp (q := 112) (σ := aGs 125 ([] : List (Nat × Nat)) (zR (zR (zM (zR (zR (zR (pI (zR ι 110) 109 5 (-1 : Int32)) 111) 112) 113)) 123) 124)) (o := 109) (T := TX7) (N := 20) C wU_X7 hw rfl (by decide) rfl 9 (by decide) rfl wF_X7_20 (aGs_P rfl rfl) dX7_init_74 ?_
  obtain ⟨r77, hr77, hM⟩ := h_b hM
  refine a_callS (σ' := aGs 125 ([] : List (Nat × Nat)) r77) (v := none) (as := fun ad => [.ref (ad 112)]) (rest := []) C hw (cs_X7_begins l rfl hr77) k_X7_begins wM_X7_38 ⟨⟨rfl, rfl⟩, Nat.le_of_ble_eq_true rfl, Nat.le_of_ble_eq_true rfl⟩ rfl hl rfl (by decide) dX7_init_77 ⟨Nat.le_of_ble_eq_true rfl, Nat.le_of_ble_eq_true rfl⟩ (fun H locs hw => ?_)
  refine lv_aload_n hx hb dX7_init_80 rfl (lv_at hl 0 rfl) ?_
  refine a_getp (q := 112) (σ := aGs 125 ([] : List (Nat × Nat)) r77) (o := 109) (T := TX7) (N := 20) C wU_X7 hw rfl (by decide) rfl 9 (by decide) rfl wF_X7_20 (aGs_P rfl rfl) dX7_init_81 ?_
  refine lv_iconst (v := (0 : Int32)) hx hb dX7_init_84 (by decide) ?_
  refine lv_iconst (v := (1 : Int32)) hx hb dX7_init_85 (by decide) ?_
  refine a_iast (σ := aGs 125 ([] : List (Nat × Nat)) r77) (o := 112) (j := 0) C hw rfl (aIn_v (by decide)) (by decide) dX7_init_86 (fun H locs hw => ?_)
  have hw : aW D dA ad7 adV (aGs 125 ([] : List (Nat × Nat)) (pI r77 112 0 (1 : Int32))) A s H locs := by rw [aGs_PI] at hw; exact hw
  refine lv_aload_n hx hb dX7_init_87 rfl (lv_at hl 0 rfl) ?_
  refine a_getp (q := 112) (σ := aGs 125 ([] : List (Nat × Nat)) (pI r77 112 0 (1 : Int32))) (o := 109) (T := TX7) (N := 20) C wU_X7 hw rfl (by decide) rfl 9 (by decide) rfl wF_X7_20 (aGs_P rfl rfl) dX7_init_88 ?_
  refine lv_iconst (v := (2 : Int32)) hx hb dX7_init_91 (by decide) ?_
  refine lv_iconst (v := (1 : Int32)) hx hb dX7_init_92 (by decide) ?_
  refine a_iast (σ := aGs 125 ([] : List (Nat × Nat)) (pI r77 112 0 (1 : Int32))) (o := 112) (j := 2) C hw rfl (aIn_v (by decide)) (by decide) dX7_init_93 (fun H locs hw => ?_)
  have hw : aW D dA ad7 adV (aGs 125 ([] : List (Nat × Nat)) (pI (pI r77 112 0 (1 : Int32)) 112 2 (1 : Int32))) A s H locs := by rw [aGs_PI] at hw; exact hw
  refine lv_aload_n hx hb dX7_init_94 rfl (lv_at hl 0 rfl) ?_
  refine a_getp (q := 112) (σ := aGs 125 ([] : List (Nat × Nat)) (pI (pI r77 112 0 (1 : Int32)) 112 2 (1 : Int32))) (o := 109) (T := TX7) (N := 20) C wU_X7 hw rfl (by decide) rfl 9 (by decide) rfl wF_X7_20 (aGs_P rfl rfl) dX7_init_95 ?_
  refine lv_bipush (v := (9 : Int32)) hx hb dX7_init_98 (by decide) ?_
  refine lv_iconst (v := (5 : Int32)) hx hb dX7_init_100 (by decide) ?_
  refine a_iast (σ := aGs 125 ([] : List (Nat × Nat)) (pI (pI r77 112 0 (1 : Int32)) 112 2 (1 : Int32))) (o := 112) (j := 9) C hw rfl (aIn_v (by decide)) (by decide) dX7_init_101 (fun H locs hw => ?_)
  have hw : aW D dA ad7 adV (aGs 125 ([] : List (Nat × Nat)) (pI (pI (pI r77 112 0 (1 : Int32)) 112 2 (1 : Int32)) 112 9 (5 : Int32))) A s H locs := by rw [aGs_PI] at hw; exact hw
  refine lv_aload_n hx hb dX7_init_102 rfl (lv_at hl 0 rfl) ?_
  refine a_getp (q := 112) (σ := aGs 125 ([] : List (Nat × Nat)) (pI (pI (pI r77 112 0 (1 : Int32)) 112 2 (1 : Int32)) 112 9 (5 : Int32))) (o := 109) (T := TX7) (N := 20) C wU_X7 hw rfl (by decide) rfl 9 (by decide) rfl wF_X7_20 (aGs_P rfl rfl) dX7_init_103 ?_
  refine lv_bipush (v := (89 : Int32)) hx hb dX7_init_106 (by decide) ?_
  refine lv_iconst (v := (5 : Int32)) hx hb dX7_init_108 (by decide) ?_
  refine a_iast (σ := aGs 125 ([] : List (Nat × Nat)) (pI (pI (pI r77 112 0 (1 : Int32)) 112 2 (1 : Int32)) 112 9 (5 : Int32))) (o := 112) (j := 89) C hw rfl (aIn_v (by decide)) (by decide) dX7_init_109 (fun H locs hw => ?_)
  have hw : aW D dA ad7 adV (aGs 125 ([] : List (Nat × Nat)) (pI (pI (pI (pI r77 112 0 (1 : Int32)) 112 2 (1 : Int32)) 112 9 (5 : Int32)) 112 89 (5 : Int32))) A s H locs := by rw [aGs_PI] at hw; exact hw
  refine lv_aload_n hx hb dX7_init_110 rfl (lv_at hl 0 rfl) ?_
  refine a_getp (q := 112) (σ := aGs 125 ([] : List (Nat × Nat)) (pI (pI (pI (pI r77 112 0 (1 : Int32)) 112 2 (1 : Int32)) 112 9 (5 : Int32)) 112 89 (5 : Int32))) (o := 109) (T := TX7) (N := 20) C wU_X7 hw rfl (by decide) rfl 9 (by decide) rfl wF_X7_20 (aGs_P rfl rfl) dX7_init_111 ?_
  refine lv_bipush (v := (94 : Int32)) hx hb dX7_init_114 (by decide) ?_
  refine lv_iconst (v := (3 : Int32)) hx hb dX7_init_116 (by decide) ?_
  refine a_iast (σ := aGs 125 ([] : List (Nat × Nat)) (pI (pI (pI (pI r77 112 0 (1 : Int32)) 112 2 (1 : Int32)) 112 9 (5 : Int32)) 112 89 (5 : Int32))) (o := 112) (j := 94) C hw rfl (aIn_v (by decide)) (by decide) dX7_init_117 (fun H locs hw => ?_)
  have hw : aW D dA ad7 adV (aGs 125 ([] : List (Nat × Nat)) (pI (pI (pI (pI (pI r77 112 0 (1 : Int32)) 112 2 (1 : Int32)) 112 9 (5 : Int32)) 112 89 (5 : Int32)) 112 94 (3 : Int32))) A s H locs := by rw [aGs_PI] at hw; exact hw
  refine lv_aload_n hx hb dX7_init_118 rfl (lv_at hl 0 rfl) ?_
  refine a_getp (q := 112) (σ := aGs 125 ([] : List (Nat × Nat)) (pI (pI (pI (pI (pI r77 112 0 (1 : Int32)) 112 2 (1 : Int32)) 112 9 (5 : Int32)) 112 89 (5 : Int32)) 112 94 (3 : Int32))) (o := 109) (T := TX7) (N := 20) C wU_X7 hw rfl (by decide) rfl 9 (by decide) rfl wF_X7_20 (aGs_P rfl rfl) dX7_init_119 ?_
  refine lv_iconst (v := (3 : Int32)) hx hb dX7_init_122 (by decide) ?_
  refine lv_iconst (v := (1 : Int32)) hx hb dX7_init_123 (by decide) ?_
  refine a_iast (σ := aGs 125 ([] : List (Nat × Nat)) (pI (pI (pI (pI (pI r77 112 0 (1 : Int32)) 112 2 (1 : Int32)) 112 9 (5 : Int32)) 112 89 (5 : Int32)) 112 94 (3 : Int32))) (o := 112) (j := 3) C hw rfl (aIn_v (by decide)) (by decide) dX7_init_124 (fun H locs hw => ?_)
  have hw : aW D dA ad7 adV (aGs 125 ([] : List (Nat × Nat)) (pI (pI (pI (pI (pI (pI r77 112 0 (1 : Int32)) 112 2 (1 : Int32)) 112 9 (5 : Int32)) 112 89 (5 : Int32)) 112 94 (3 : Int32)) 112 3 (1 : Int32))) A s H locs := by rw [aGs_PI] at hw; exact hw
  cases h_e hM
  exact n_ret C hE0 hw dX7_init_125
