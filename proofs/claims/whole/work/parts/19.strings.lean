/-! STRING LITERALS: length() and charAt(int) of literal k < 12 -/
def sLen (k : Nat) : Int32 := Int32.ofNat (aLen.getD k 0)
def sCh (k j : Nat) : Int32 := (aByt.getD k []).getD j 0
theorem sCh_ok : ∀ k, k < 12 → ∀ j, j < aLen.getD k 0 → ((sCh k j &&& 255).toUInt32 % 65536).toInt32 = sCh k j ∧ narrow .char (.int (sCh k j)) = .int (sCh k j) := by decide +kernel
theorem sLen_in {k : Nat} {i : Int32} (hk : k < 12) (h : vp_in i (aLen.getD k 0)) : ¬ i < 0 ∧ i < sLen k := by
  obtain ⟨h1, h2⟩ := vp_in_iff.mp h
  have hb : ∀ k, k < 12 → (sLen k).toInt = ((aLen.getD k 0 : Nat) : Int) := by decide +kernel
  refine ⟨fun q => ?_, ?_⟩
  · rw [Int32.lt_iff_toInt_lt] at q
    have h0 : (0 : Int32).toInt = 0 := by decide
    omega
  · rw [Int32.lt_iff_toInt_lt, hb k hk]
    exact h2
section STR
variable {p : Program} {l : Launch} {e : Env} {R : Room} {s : State} {m : MethodId} {args : Array Value} {below : List Frame} {meth : Method} {c : Code} {H : Heap} {locs : List Loc} {cells slots : Nat} {Q : State → Prop}
variable {cc : ByteArray} {pc nL : Nat} {ls : Array Slot} {rest : List Value} {own : String} {ret : Option FieldType} {D : va_G} {dA : Nat → ClassId} {ad adV : Nat → Nat} {σ : aS} {A : Nat → Prop} {index k : Nat}
theorem s_compact (X : aX p m c cc nL s args aTs own meth ret) (hw : aW D dA ad adV σ A s H locs) (hl : Cond.fieldLink own index "java/lang/String" "COMPACT_STRINGS" "Z" ∈ aTs) (hdg : decode cc pc = .ok (.getstatic index, 3))
    (kk : W p l e R s m args below meth c H locs cells slots Q (F0 m (pc + 3) ls (.int 1 :: rest))) : W p l e R s m args below meth c H locs cells slots Q (F0 m pc ls rest) := by
  obtain ⟨⟨hx, hb, -, hown, hts⟩, -, -⟩ := X
  obtain ⟨-, -, -, hS, -, hE⟩ := hw
  exact va_gets hx hb hE.2.2.2.2.2.1.1 hS hown (hts _ hl) (fun _ h9 => h9) hdg kk
theorem s_form (X : aX p m c cc nL s args aTs own meth ret) (hw : aW D dA ad adV σ A s H locs) (hl : Cond.fieldLink own index "jdk/internal/util/Preconditions" "SIOOBE_FORMATTER" "Ljava/util/function/BiFunction;" ∈ aTs) (hdg : decode cc pc = .ok (.getstatic index, 3))
    (kk : ∀ v : Value, v.category = 1 → W p l e R s m args below meth c H locs cells slots Q (F0 m (pc + 3) ls (v :: rest))) : W p l e R s m args below meth c H locs cells slots Q (F0 m pc ls rest) := by
  obtain ⟨⟨hx, hb, -, hown, hts⟩, -, -⟩ := X
  obtain ⟨-, -, -, hS, -, hE⟩ := hw
  rcases hE.2.2.2.2.2.1.2 with h | ⟨t, h⟩
  · exact va_gets hx hb h hS hown (hts _ hl) (fun _ h9 => h9) hdg (kk _ rfl)
  · exact va_gets hx hb h hS hown (hts _ hl) (fun _ h9 => h9) hdg (kk _ rfl)
theorem s_coder (X : aX p m c cc nL s args aTs own meth ret) (hw : aW D dA ad adV σ A s H locs) (hk : k < 12) (hl : Cond.fieldLink own index "java/lang/String" "coder" "B" ∈ aTs) (hdg : decode cc pc = .ok (.getfield index, 3))
    (kk : W p l e R s m args below meth c H locs cells slots Q (F0 m (pc + 3) ls (.int 0 :: rest))) : W p l e R s m args below meth c H locs cells slots Q (F0 m pc ls (.ref (ad (1000000 + k)) :: rest)) := by
  obtain ⟨⟨hx, hb, -, hown, hts⟩, -, -⟩ := X
  obtain ⟨-, -, -, hS, -, hE⟩ := hw
  exact vk_getf hx hb (hE.2.2.1.1 k hk).2.1 hS hown (hts _ hl) (fun _ h9 => h9) hdg kk
theorem s_value (X : aX p m c cc nL s args aTs own meth ret) (hw : aW D dA ad adV σ A s H locs) (hk : k < 12) (hl : Cond.fieldLink own index "java/lang/String" "value" "[B" ∈ aTs) (hdg : decode cc pc = .ok (.getfield index, 3))
    (kk : W p l e R s m args below meth c H locs cells slots Q (F0 m (pc + 3) ls (.ref (ad (3000000 + k)) :: rest))) : W p l e R s m args below meth c H locs cells slots Q (F0 m pc ls (.ref (ad (1000000 + k)) :: rest)) := by
  obtain ⟨⟨hx, hb, -, hown, hts⟩, -, -⟩ := X
  obtain ⟨-, -, -, hS, -, hE⟩ := hw
  exact vk_getf hx hb (hE.2.2.1.1 k hk).2.2.1 hS hown (hts _ hl) (fun _ h9 => h9) hdg kk
theorem s_len (X : aX p m c cc nL s args aTs own meth ret) (hw : aW D dA ad adV σ A s H locs) (hk : k < 12) (hdg : decode cc pc = .ok (.arraylength, 1))
    (kk : W p l e R s m args below meth c H locs cells slots Q (F0 m (pc + 1) ls (.int (sLen k) :: rest))) : W p l e R s m args below meth c H locs cells slots Q (F0 m pc ls (.ref (ad (3000000 + k)) :: rest)) := by
  obtain ⟨⟨hx, hb, -, -, -⟩, -, -⟩ := X
  obtain ⟨-, -, -, hS, -, hE⟩ := hw
  exact va_tlen hx hb (hE.2.2.1.1 k hk).2.2.2 hS rfl hdg kk
theorem s_bald {i : Int32} (X : aX p m c cc nL s args aTs own meth ret) (hw : aW D dA ad adV σ A s H locs) (hk : k < 12) (hi : vp_in i (aLen.getD k 0)) (hdg : decode cc pc = .ok (.baload, 1))
    (kk : W p l e R s m args below meth c H locs cells slots Q (F0 m (pc + 1) ls (.int (sCh k i.toNatClampNeg) :: rest))) : W p l e R s m args below meth c H locs cells slots Q (F0 m pc ls (.int i :: .ref (ad (3000000 + k)) :: rest)) := by
  obtain ⟨⟨hx, hb, -, -, -⟩, -, -⟩ := X
  obtain ⟨-, -, -, hS, -, hE⟩ := hw
  exact va_tb hx hb (hE.2.2.1.1 k hk).2.2.2 hS hi rfl hdg kk
variable {y : MethodName} {bytes : ByteArray} {maxL n : Nat} {rt : Option FieldType} {rm : Room} {σ' : aS} {v : Option Value} {As : (Nat → Nat) → List Value} {as : (Nat → Nat) → List Value} {st0 : List Value} {lv : List (Nat × Value)}
theorem s_callV (X : aX p m c cc nL s args aTs own meth ret) (hw : aW D dA ad adV σ A s H locs) (hM : aM l y bytes maxL rt rm as σ v σ') (hk : k < 12) (hcal : aCal RJ0 y bytes maxL rt n) (hlk : Cond.methodLink own index y ∈ aTs) (hrm : (rm.cells = 0 ∧ rm.slots = 0) ∧ rm.frames + 1 ≤ R.frames ∧ 8 + (maxL + 11) + rm.locals ≤ R.locals) (has : as ad = .ref (ad (1000000 + k)) :: As ad) (hn : (As ad).length = n) (hl : lv_has ls nL lv) (hst : st0 = (As ad).reverse ++ .ref (ad (1000000 + k)) :: rest) (hcat : (rest.map fun v => v.category).sum ≤ 8) (hdg : decode cc pc = .ok (.invokevirtual index, 3)) (hcs : cells + 0 ≤ R.cells ∧ slots + 0 ≤ R.slots)
    (kk : ∀ (H1 : Heap) (locs1 : List Loc), aW D dA ad adV σ' A s H1 locs1 → W p l e R s m args below meth c H1 locs1 cells slots Q (F0 m (pc + 3) ls (v.toList ++ rest))) : W p l e R s m args below meth c H locs cells slots Q (F0 m pc ls st0) := by
  have hpre := hw.pre (as := as)
  have hMM := hM D dA ad adV H.size
  rw [has] at hpre hMM
  have cw : CallW R s args own RJ0 index y bytes maxL rt (Cond.code y bytes maxL rt :: aTs) rm 0 0 n := cwV n X.1.2.2.2.2 (hcal.good hlk) rfl hrm.1.1 hrm.1.2 hcal.2.2.2.2 hrm.2
  exact a_back hw (va_runV (g := F0 m pc ls st0) (b := ad (1000000 + k)) (As := As ad) (rest := rest) X.1 hMM cw ⟨aPre.blind, vk_recv (adK := fun k => ad (1000000 + k)) (i := k) hw.2.2.2.2.2.2.2.1 hk hw.2.2.2.1, hpre⟩ rfl hn hl.1 hst (lv_room hcat) hdg hcs) kk
end STR
def rm_J0_coder : Room := { frames := 0, cells := 0, slots := 0, locals := 0 }
theorem k_J0_coder : aCal RJ0 yJ0_coder_7d493 cJ0_coder_7d493 1 (some .byte) 0 := ⟨wI_yJ0_coder_7d493, wE_yJ0_coder_7d493, wZ_J0, wC_yJ0_coder_7d493, by decide +kernel⟩
theorem c_J0_coder (l : Launch) {k : Nat} (hk : k < 12) {σ : aS} : aM l yJ0_coder_7d493 cJ0_coder_7d493 1 (some .byte) rm_J0_coder (fun ad => [.ref (ad (1000000 + k))]) σ (some (.int 0)) σ := by
  refine aM.of (by decide) (fun _ => Nat.le_of_ble_eq_true rfl) ?_
  intro p e s m args below meth c D dA ad adV A ls C hw hl
  have C : aX p m c cJ0_coder_7d493 1 s args aTs RJ0 meth (some .byte) := C
  have hx := C.1.1
  have hb := C.1.2.1
  have hl : lv_has ls 1 [(0, .ref (ad (1000000 + k)))] := hl
  refine s_compact C hw wF_J0_38 dJ0_coder_7d493_0 ?_
  refine lv_if_eq (tgt := 13) hx hb dJ0_coder_7d493_3 (by decide) (fun hc => absurd hc (by decide)) (fun _ => ?_)
  refine lv_aload_n hx hb dJ0_coder_7d493_6 rfl (lv_at hl 0 rfl) ?_
  refine s_coder C hw hk wF_J0_15 dJ0_coder_7d493_7 ?_
  refine lv_goto (tgt := 14) hx hb dJ0_coder_7d493_10 (by decide) ?_
  exact a_zret C (by decide) hw dJ0_coder_7d493_14
theorem k_J0_isLatin1 : aCal RJ0 yJ0_isLatin1_aae02 cJ0_isLatin1_aae02 1 (some .boolean) 0 := ⟨wI_yJ0_isLatin1_aae02, wE_yJ0_isLatin1_aae02, wZ_J0, wC_yJ0_isLatin1_aae02, by decide +kernel⟩
theorem c_J0_isLatin1 (l : Launch) {k : Nat} (hk : k < 12) {σ : aS} : aM l yJ0_isLatin1_aae02 cJ0_isLatin1_aae02 1 (some .boolean) rm_J0_coder (fun ad => [.ref (ad (1000000 + k))]) σ (some (.int 1)) σ := by
  refine aM.of (by decide) (fun _ => Nat.le_of_ble_eq_true rfl) ?_
  intro p e s m args below meth c D dA ad adV A ls C hw hl
  have C : aX p m c cJ0_isLatin1_aae02 1 s args aTs RJ0 meth (some .boolean) := C
  have hx := C.1.1
  have hb := C.1.2.1
  have hl : lv_has ls 1 [(0, .ref (ad (1000000 + k)))] := hl
  refine s_compact C hw wF_J0_38 dJ0_isLatin1_aae02_0 ?_
  refine lv_if_eq (tgt := 17) hx hb dJ0_isLatin1_aae02_3 (by decide) (fun hc => absurd hc (by decide)) (fun _ => ?_)
  refine lv_aload_n hx hb dJ0_isLatin1_aae02_6 rfl (lv_at hl 0 rfl) ?_
  refine s_coder C hw hk wF_J0_15 dJ0_isLatin1_aae02_7 ?_
  refine lv_if_ne (tgt := 17) hx hb dJ0_isLatin1_aae02_10 (by decide) (fun hc => absurd rfl hc) (fun _ => ?_)
  refine lv_iconst (v := 1) hx hb dJ0_isLatin1_aae02_13 (by decide) ?_
  refine lv_goto (tgt := 18) hx hb dJ0_isLatin1_aae02_14 (by decide) ?_
  exact a_zret C (by decide) hw dJ0_isLatin1_aae02_18
def rm_J0_length : Room := { frames := 1, cells := 0, slots := 0, locals := 20 }
theorem k_J0_length : aCal RJ0 yJ0_length_8abf5 cJ0_length_8abf5 1 (some .int) 0 := ⟨wI_yJ0_length_8abf5, wE_yJ0_length_8abf5, wZ_J0, wC_yJ0_length_8abf5, by decide +kernel⟩
theorem c_J0_length (l : Launch) {k : Nat} (hk : k < 12) {σ : aS} : aM l yJ0_length_8abf5 cJ0_length_8abf5 1 (some .int) rm_J0_length (fun ad => [.ref (ad (1000000 + k))]) σ (some (.int (sLen k))) σ := by
  refine aM.of (by decide) (fun _ => Nat.le_of_ble_eq_true rfl) ?_
  intro p e s m args below meth c D dA ad adV A ls C hw hl
  have C : aX p m c cJ0_length_8abf5 1 s args aTs RJ0 meth (some .int) := C
  have hx := C.1.1
  have hb := C.1.2.1
  have hl : lv_has ls 1 [(0, .ref (ad (1000000 + k)))] := hl
  refine lv_aload_n hx hb dJ0_length_8abf5_0 rfl (lv_at hl 0 rfl) ?_
  refine s_value C hw hk wF_J0_9 dJ0_length_8abf5_1 ?_
  refine s_len C hw hk dJ0_length_8abf5_4 ?_
  refine lv_aload_n hx hb dJ0_length_8abf5_5 rfl (lv_at hl 0 rfl) ?_
  refine s_callV (k := k) (As := fun _ => []) (rest := [.int (sLen k)]) C hw (c_J0_coder l hk) hk k_J0_coder wM_J0_335 ⟨⟨rfl, rfl⟩, Nat.le_of_ble_eq_true rfl, Nat.le_of_ble_eq_true rfl⟩ rfl rfl hl rfl (Nat.le_of_ble_eq_true rfl) dJ0_length_8abf5_6 ⟨Nat.zero_le _, Nat.zero_le _⟩ (fun H locs hw => ?_)
  refine lv_ishr hx hb dJ0_length_8abf5_9 ?_
  rw [sb_shr0]
  exact a_iret C hw dJ0_length_8abf5_10
def rm_J3_check : Room := { frames := 0, cells := 0, slots := 0, locals := 0 }
theorem k_J3_check : aCalS yJ3_checkIndex_8e157 cJ3_checkIndex_8e157 3 (some .int) 3 := ⟨wS_yJ3_checkIndex_8e157, wZ_J3, wC_yJ3_checkIndex_8e157, by decide +kernel⟩
theorem c_J3_check (l : Launch) {i n : Int32} {fv : Value} (hf : fv.category = 1) (h0 : ¬ i < 0) (h1 : i < n) {σ : aS} : aM l yJ3_checkIndex_8e157 cJ3_checkIndex_8e157 3 (some .int) rm_J3_check (fun _ => [.int i, .int n, fv]) σ (some (.int i)) σ := by
  refine aM.of (by decide) (fun _ => by
    have a1 : (Value.int i).category = 1 := rfl
    have a2 : (Value.int n).category = 1 := rfl
    simp [lg_sl, hf, a1, a2]) ?_
  intro p e s m args below meth c D dA ad adV A ls C hw hl
  have C : aX p m c cJ3_checkIndex_8e157 3 s args aTs RJ3 meth (some .int) := C
  have hx := C.1.1
  have hb := C.1.2.1
  have hl : lv_has ls 3 [(0, .int i), (1, .int n), (2, fv)] := hl
  refine lv_iload_n hx hb dJ3_checkIndex_8e157_0 rfl (lv_at hl 0 rfl) ?_
  refine lv_if_lt (tgt := 9) hx hb dJ3_checkIndex_8e157_1 (by decide) (fun hc => absurd hc h0) (fun _ => ?_)
  refine lv_iload_n hx hb dJ3_checkIndex_8e157_4 rfl (lv_at hl 0 rfl) ?_
  refine lv_iload_n hx hb dJ3_checkIndex_8e157_5 rfl (lv_at hl 1 rfl) ?_
  refine lv_icmp_lt (tgt := 16) hx hb dJ3_checkIndex_8e157_6 (by decide) (fun _ => ?_) (fun hc => absurd h1 hc)
  refine lv_iload_n hx hb dJ3_checkIndex_8e157_16 rfl (lv_at hl 0 rfl) ?_
  exact a_iret C hw dJ3_checkIndex_8e157_17
def rm_J0_check : Room := { frames := 1, cells := 0, slots := 0, locals := 22 }
theorem k_J0_check : aCalS yJ0_checkIndex_df160 cJ0_checkIndex_df160 2 none 2 := ⟨wS_yJ0_checkIndex_df160, wZ_J0, wC_yJ0_checkIndex_df160, by decide +kernel⟩
theorem c_J0_check (l : Launch) {i n : Int32} (h0 : ¬ i < 0) (h1 : i < n) {σ : aS} : aM l yJ0_checkIndex_df160 cJ0_checkIndex_df160 2 none rm_J0_check (fun _ => [.int i, .int n]) σ none σ := by
  refine aM.of (by decide) (fun _ => Nat.le_of_ble_eq_true rfl) ?_
  intro p e s m args below meth c D dA ad adV A ls C hw hl
  have C : aX p m c cJ0_checkIndex_df160 2 s args aTs RJ0 meth none := C
  have hx := C.1.1
  have hb := C.1.2.1
  have hl : lv_has ls 2 [(0, .int i), (1, .int n)] := hl
  refine lv_iload_n hx hb dJ0_checkIndex_df160_0 rfl (lv_at hl 0 rfl) ?_
  refine lv_iload_n hx hb dJ0_checkIndex_df160_1 rfl (lv_at hl 1 rfl) ?_
  refine s_form C hw wF_J0_1053 dJ0_checkIndex_df160_2 (fun fv hf => ?_)
  refine a_callS (as := fun _ => [.int i, .int n, fv]) (rest := []) C hw (c_J3_check l hf h0 h1) k_J3_check wM_J0_1059 ⟨⟨rfl, rfl⟩, Nat.le_of_ble_eq_true rfl, Nat.le_of_ble_eq_true rfl⟩ rfl hl rfl (Nat.le_of_ble_eq_true rfl) dJ0_checkIndex_df160_5 ⟨Nat.zero_le _, Nat.zero_le _⟩ (fun H locs hw => ?_)
  refine lv_pop hx hb dJ0_checkIndex_df160_8 rfl ?_
  exact a_vret C hw dJ0_checkIndex_df160_9
def rm_J1_charAt : Room := { frames := 2, cells := 0, slots := 0, locals := 43 }
theorem k_J1_charAt : aCalS yJ1_charAt_3b067 cJ1_charAt_3b067 2 (some .char) 2 := ⟨wS_yJ1_charAt_3b067, wZ_J1, wC_yJ1_charAt_3b067, by decide +kernel⟩
theorem c_J1_charAt (l : Launch) {k : Nat} (hk : k < 12) {i : Int32} (hi : vp_in i (aLen.getD k 0)) {σ : aS} : aM l yJ1_charAt_3b067 cJ1_charAt_3b067 2 (some .char) rm_J1_charAt (fun ad => [.ref (ad (3000000 + k)), .int i]) σ (some (.int (sCh k i.toNatClampNeg))) σ := by
  have hlt : i.toNatClampNeg < aLen.getD k 0 := Nat.not_le.mp fun q => hi (Or.inr q)
  obtain ⟨e1, e2⟩ := sCh_ok k hk _ hlt
  obtain ⟨h0, h1⟩ := sLen_in hk hi
  refine aM.of (by decide) (fun _ => Nat.le_of_ble_eq_true rfl) ?_
  intro p e s m args below meth c D dA ad adV A ls C hw hl
  have C : aX p m c cJ1_charAt_3b067 2 s args aTs RJ1 meth (some .char) := C
  have hx := C.1.1
  have hb := C.1.2.1
  have hl : lv_has ls 2 [(0, .ref (ad (3000000 + k))), (1, .int i)] := hl
  refine lv_iload_n hx hb dJ1_charAt_3b067_0 rfl (lv_at hl 1 rfl) ?_
  refine lv_aload_n hx hb dJ1_charAt_3b067_1 rfl (lv_at hl 0 rfl) ?_
  refine s_len C hw hk dJ1_charAt_3b067_2 ?_
  refine a_callS (as := fun _ => [.int i, .int (sLen k)]) (rest := []) C hw (c_J0_check l h0 h1) k_J0_check wM_J1_9 ⟨⟨rfl, rfl⟩, Nat.le_of_ble_eq_true rfl, Nat.le_of_ble_eq_true rfl⟩ rfl hl rfl (Nat.le_of_ble_eq_true rfl) dJ1_charAt_3b067_3 ⟨Nat.zero_le _, Nat.zero_le _⟩ (fun H locs hw => ?_)
  refine lv_aload_n hx hb dJ1_charAt_3b067_6 rfl (lv_at hl 0 rfl) ?_
  refine lv_iload_n hx hb dJ1_charAt_3b067_7 rfl (lv_at hl 1 rfl) ?_
  refine s_bald C hw hk hi dJ1_charAt_3b067_8 ?_
  refine lv_sipush (v := 255) hx hb dJ1_charAt_3b067_9 (by decide) ?_
  refine lv_iand hx hb dJ1_charAt_3b067_12 ?_
  refine lv_i2c hx hb dJ1_charAt_3b067_13 e1 ?_
  exact a_zret C e2 hw dJ1_charAt_3b067_14
def rm_J0_charAt : Room := { frames := 3, cells := 0, slots := 0, locals := 64 }
theorem k_J0_charAt : aCal RJ0 yJ0_charAt_5068e cJ0_charAt_5068e 2 (some .char) 1 := ⟨wI_yJ0_charAt_5068e, wE_yJ0_charAt_5068e, wZ_J0, wC_yJ0_charAt_5068e, by decide +kernel⟩
theorem c_J0_charAt (l : Launch) {k : Nat} (hk : k < 12) {i : Int32} (hi : vp_in i (aLen.getD k 0)) {σ : aS} : aM l yJ0_charAt_5068e cJ0_charAt_5068e 2 (some .char) rm_J0_charAt (fun ad => [.ref (ad (1000000 + k)), .int i]) σ (some (.int (sCh k i.toNatClampNeg))) σ := by
  have hlt : i.toNatClampNeg < aLen.getD k 0 := Nat.not_le.mp fun q => hi (Or.inr q)
  obtain ⟨e1, e2⟩ := sCh_ok k hk _ hlt
  refine aM.of (by decide) (fun _ => Nat.le_of_ble_eq_true rfl) ?_
  intro p e s m args below meth c D dA ad adV A ls C hw hl
  have C : aX p m c cJ0_charAt_5068e 2 s args aTs RJ0 meth (some .char) := C
  have hx := C.1.1
  have hb := C.1.2.1
  have hl : lv_has ls 2 [(0, .ref (ad (1000000 + k))), (1, .int i)] := hl
  refine lv_aload_n hx hb dJ0_charAt_5068e_0 rfl (lv_at hl 0 rfl) ?_
  refine s_callV (k := k) (As := fun _ => []) (rest := []) C hw (c_J0_isLatin1 l hk) hk k_J0_isLatin1 wM_J0_492 ⟨⟨rfl, rfl⟩, Nat.le_of_ble_eq_true rfl, Nat.le_of_ble_eq_true rfl⟩ rfl rfl hl rfl (Nat.le_of_ble_eq_true rfl) dJ0_charAt_5068e_1 ⟨Nat.zero_le _, Nat.zero_le _⟩ (fun H locs hw => ?_)
  refine lv_if_eq (tgt := 16) hx hb dJ0_charAt_5068e_4 (by decide) (fun hc => absurd hc (by decide)) (fun _ => ?_)
  refine lv_aload_n hx hb dJ0_charAt_5068e_7 rfl (lv_at hl 0 rfl) ?_
  refine s_value C hw hk wF_J0_9 dJ0_charAt_5068e_8 ?_
  refine lv_iload_n hx hb dJ0_charAt_5068e_11 rfl (lv_at hl 1 rfl) ?_
  refine a_callS (as := fun ad => [.ref (ad (3000000 + k)), .int i]) (rest := []) C hw (c_J1_charAt l hk hi) k_J1_charAt wM_J0_495 ⟨⟨rfl, rfl⟩, Nat.le_of_ble_eq_true rfl, Nat.le_of_ble_eq_true rfl⟩ rfl hl rfl (Nat.le_of_ble_eq_true rfl) dJ0_charAt_5068e_12 ⟨Nat.zero_le _, Nat.zero_le _⟩ (fun H locs hw => ?_)
  exact a_zret C e2 hw dJ0_charAt_5068e_15
