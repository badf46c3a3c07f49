/-! THE LAW'S LOOP: over any invariant Inv of the heap that every step keeps, the law comes to its end with 1 -/
theorem ll_gt {L j : Nat} (hL : L ≤ 3072) (hj : j ≤ 4000) : (nI L - 6 < nI j) ↔ L < j + 6 := by
  rw [Int32.lt_iff_toInt_lt, nI_toInt (n := j) (by omega)]
  have h : (nI L - 6).toInt = (L : Int) - 6 := by
    have := pk_sub_toInt (a := L) (b := 6) (by omega) (by omega)
    exact this
  rw [h]
  omega
set_option maxHeartbeats 400000 in
set_option maxRecDepth 100000 in
theorem law_loop (l : Launch) (hst : l.stackTraces = false) {p : Program} {e : Env} {s : State} {m : MethodId} {below : List Frame} {meth : Method} {c : Code} {D : va_G} {dA : Nat → ClassId} {ad adV : Nat → Nat} {b L : Nat} {xs : Nat → Int32} (C : aX p m c cL_law 8 s #[Value.ref b] aTs RL meth ret) (hX : va_X b L xs s s.heap) (hbl : b < s.heap.size) (hL : L ≤ 3072) {Inv : iS → Prop} (hstep : ∀ (ι : iS) (a0 a1 a2 a3 a4 a5 : Int32), Inv ι → ∃ ι9 : iS, lawM a0 a1 a2 a3 a4 a5 ι = some (1, ι9) ∧ Inv ι9) {c0 s0 : Nat} (hc0 : c0 + 1000 ≤ 601024) (hs0 : s0 + 6000 ≤ 7293034) :
    ∀ (k j : Nat) (ι : iS), j ≤ 513 → L + 6 < 6 * j + 6 * k → Inv ι → ∀ {H : Heap} {locs : List Loc} {ls : Array Slot}, aW D dA ad adV (aG ι) (fun q : Nat => s.heap.size ≤ q) s H locs → lv_has ls 8 [(0, .ref b), (1, .ref (ad 0)), (2, .ref (ad 109)), (3, .ref (ad 125)), (4, .int (nI (6 * j)))] → W p l e room_1 s m #[Value.ref b] below meth c H locs (c0 + j) (s0 + 6 * j) (lw_Z below #[Value.ref b] s) (F0 m 23 ls []) := by
  have hx := C.1.1
  have hb := C.1.2.1
  have hbA : ¬ (fun q : Nat => s.heap.size ≤ q) b := Nat.not_le.mpr hbl
  have hend : ∀ (j : Nat), j ≤ 513 → ∀ {H : Heap} {locs : List Loc} {ls : Array Slot} {ι : iS}, aW D dA ad adV (aG ι) (fun q : Nat => s.heap.size ≤ q) s H locs → W p l e room_1 s m #[Value.ref b] below meth c H locs (c0 + j) (s0 + 6 * j) (lw_Z below #[Value.ref b] s) (F0 m 1532 ls []) := by
    intro j hj H locs ls ι hw
    refine lv_iconst (v := 1) hx hb dL_law_1532 (by decide) ?_
    refine va_forget (fun q hq => hw.2.2.2.1.2.2 q hq) ?_
    refine W.widen (k := 601024) (n := 7293034) (by omega) (by omega) ?_
    exact lw_ret hx hb C.2.1 C.2.2 dL_law_1533
  intro k
  induction k with
  | zero =>
    intro j ι hj hf hI H locs ls hw hl
    refine lv_iload hx hb dL_law_23 (lv_at hl 4 rfl) ?_
    refine lv_aload_n hx hb dL_law_25 rfl (lv_at hl 0 rfl) ?_
    refine s_slen C hw hX hbl hbA dL_law_26 ?_
    refine lv_bipush (v := 6) hx hb dL_law_27 (by decide) ?_
    refine lv_isub hx hb dL_law_29 ?_
    refine lv_icmp_gt (tgt := 1532) hx hb dL_law_30 (by decide) (fun hc => hend j hj hw) (fun hc => ?_)
    exact absurd ((ll_gt hL (by omega)).mpr (by omega)) hc
  | succ k ih =>
    intro j ι hj hf hI H locs ls hw hl
    refine lv_iload hx hb dL_law_23 (lv_at hl 4 rfl) ?_
    refine lv_aload_n hx hb dL_law_25 rfl (lv_at hl 0 rfl) ?_
    refine s_slen C hw hX hbl hbA dL_law_26 ?_
    refine lv_bipush (v := 6) hx hb dL_law_27 (by decide) ?_
    refine lv_isub hx hb dL_law_29 ?_
    refine lv_icmp_gt (tgt := 1532) hx hb dL_law_30 (by decide) (fun hc => hend j hj hw) (fun hc => ?_)
    have hn : 6 * j + 6 ≤ L := by
      rcases Nat.lt_or_ge L (6 * j + 6) with h | h
      · exact absurd ((ll_gt hL (by omega)).mpr h) hc
      · exact h
    obtain ⟨ι9, hM, hI9⟩ := hstep ι (xs (6 * j + 0)) (xs (6 * j + 1)) (xs (6 * j + 2)) (xs (6 * j + 3)) (xs (6 * j + 4)) (xs (6 * j + 5)) hI
    refine law_step l hst C hX hbl hbA hL hn rfl rfl rfl rfl rfl rfl hM (cells := c0 + j) (slots := s0 + 6 * j) ⟨by show c0 + j + 1 ≤ 601024; omega, by show s0 + 6 * j + 6 ≤ 7293034; omega⟩ ?_ hw hl
    intro H1 locs1 ls1 hw1 hl1
    exact ih (j + 1) ι9 (by omega) (by omega) hI9 hw1 hl1
