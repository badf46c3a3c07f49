/-! FROM THE LAW'S ENTRY TO ITS LOOP: both objects and the row for answers are made. What is left to show is pure: the start's mirror answers, every step keeps Inv. -/
def zS : iS := (fun _ _ => 0, fun _ _ => 0, fun _ _ => none)
def startM : Option iS := Option.bind (mi_X6 (zR zS 0)) fun ι1 => Option.bind (mi_X7 (zR ι1 109)) fun ι2 => some (zR ι2 125)
def fixP (ι : iS) : iS := (gI ι, gJ ι, aP1)
theorem aPt_len : aPt.length = 126 := by decide +kernel
theorem aGs_all (ι : iS) : aGs 126 ([] : List (Nat × Nat)) ι = aG (fixP ι) := by
  have e1 : aKd.take 126 = aKd := by decide +kernel
  have e2 : (fun o k => if (decide (o < 126) && !([] : List (Nat × Nat)).contains (o, k)) = true then aP1 o k else none) = fun o k => if aMu o k = true then aP1 o k else aP0 o k := by
    funext o k
    have e3 : (decide (o < 126) && !([] : List (Nat × Nat)).contains (o, k)) = decide (o < 126) := by simp
    rw [e3]
    by_cases hm : aMu o k = true
    · rw [if_pos hm]
      have ho : o < 126 := by
        simp only [aMu, Bool.or_eq_true, Bool.and_eq_true, decide_eq_true_eq] at hm
        omega
      rw [if_pos (decide_eq_true ho)]
    · rw [if_neg hm]
      have h1 : aP1 o k = aP0 o k := by
        simp only [aMu, Bool.or_eq_true, Bool.and_eq_true, decide_eq_true_eq] at hm
        unfold aP1
        rw [if_neg (by omega), if_neg (by omega)]
      rw [h1]
      by_cases ho : o < 126
      · rw [if_pos (decide_eq_true ho)]
      · rw [if_neg (by simpa using ho)]
        unfold aP0
        have e4 : aPt.getD o [] = [] := by
          rw [List.getD_eq_getElem?_getD, List.getElem?_eq_none (by rw [aPt_len]; omega)]
          rfl
        rw [e4]
        rfl
  unfold aGs aG fixP
  rw [e1, e2]
  rfl
theorem st_flags {l : Launch} (h : l.flags = flags0) : l.stackTraces = false := by simp [Launch.stackTraces, h, flags0]
set_option maxHeartbeats 1000000 in
set_option maxRecDepth 100000 in
theorem whole_of (l : Launch) (hflags : l.flags = flags0) {p : Program} {e : Env} {s : State} {m : MethodId} {below : List Frame} {meth : Method} {c : Code} {b L : Nat} {xs : Nat → Int32} (hL : L ≤ 3072) (C0 : lw_At p s m meth c b L xs)
    {Inv : iS → Prop} (hstep : ∀ (ι : iS) (a0 a1 a2 a3 a4 a5 : Int32), Inv ι → ∃ ι9 : iS, lawM a0 a1 a2 a3 a4 a5 ι = some (1, ι9) ∧ Inv ι9) (h0 : ∃ ι, startM = some ι ∧ Inv (fixP ι)) :
    W p l e room_1 s m #[Value.ref b] below meth c s.heap [] 0 0 (lw_Z below #[Value.ref b] s) (entryFrame m ([Value.ref b] : List Value).toArray 8) := by
  obtain ⟨hx, hb, hr, hml, hown, hts, hX, hbl, hlocks, hgv⟩ := id C0
  have hgw : ∀ w ∈ eG, w.before #[Value.ref b] s = true := flat_of_before _ hgv
  have htw : ∀ w ∈ tables_1, w.before #[Value.ref b] s = true := fun w h => hts w (List.mem_append_right _ h)
  have hts : ∀ w ∈ aTs, w.before #[Value.ref b] s = true := fun w h => hts w (List.mem_filter.mp h).1
  have hY : aY s := ⟨va_AO.of (htw _ (env_t _ (by refine List.mem_append_right _ ?_; simp))), va_AOA.of (htw _ (env_t _ (by refine List.mem_append_right _ ?_; simp)))⟩
  obtain ⟨D, dA, hK⟩ := env_K hts hY
  have hA0 : ∀ a : Nat, a < s.heap.size → ¬ (fun q : Nat => s.heap.size ≤ q) a := fun a h => Nat.not_le.mpr h
  obtain ⟨ad, adV, hE⟩ := env_E hgw htw hA0
  have C : aX p m c cL_law 8 s #[Value.ref b] aTs RL meth ret := ⟨⟨hx, hb, hml, hown, hts⟩, hr, hlocks⟩
  have hw : aW D dA ad adV (aGs 0 ([] : List (Nat × Nat)) zS) (fun q : Nat => s.heap.size ≤ q) s s.heap [] := by
    have e0 : aWs ad dA (aGs 0 ([] : List (Nat × Nat)) zS) = [] := rfl
    refine ⟨hK, ?_, ?_, va_S.rf, fun _ h => h, hE⟩
    · rw [e0]; exact fun k q h => by simp at h
    · rw [e0]; exact ⟨fun i j p q h => by simp at h, fun k q h => by simp at h⟩
  have hl := lv_entry ([.ref b]) (n := 8) (Nat.le_of_ble_eq_true rfl)
  rw [lg_entry_eq]
  generalize (lg_sl ([.ref b]) ++ List.replicate (8 - (lg_sl ([.ref b])).length) Slot.unset).toArray = ls at hl ⊢
  have hl : lv_has ls 8 [(0, .ref b)] := hl
  obtain ⟨ι, hM, hI⟩ := h0
  unfold startM at hM
  refine n_new (U' := [(0, 0), (0, 2), (0, 3), (0, 4), (0, 7), (0, 8), (0, 9), (0, 10)]) (ci := 6) (T := TX6) (N := 11) (ty0 := tyX6) C wU_X6 tyX6_ok hw (by decide) rfl (by decide) rfl (nOk.of (N := [(0, 0), (0, 2), (0, 3), (0, 4), (0, 7), (0, 8), (0, 9), (0, 10)]) (by decide +kernel) (by decide)) (by decide) dv_X6 wK_L_8 wN_X6 wZ_X6 (Nat.le_of_ble_eq_true rfl) (Nat.le_of_ble_eq_true rfl) dL_law_0 (fun ad1 H hE1 hw => ?_)
  have hw : aW D dA ad1 adV (aGs 1 [(0, 0), (0, 2), (0, 3), (0, 4), (0, 7), (0, 8), (0, 9), (0, 10)] (zR zS 0)) (fun q : Nat => s.heap.size ≤ q) s H [] := hw
  refine lv_dup hx hb dL_law_3 rfl ?_
  obtain ⟨ι1, hM1, hM⟩ := h_b hM
  refine n_callI (σ' := aGs 109 ([] : List (Nat × Nat)) ι1) (o := 0) (rest := [.ref (ad1 0)]) C hY hw (ci_X6_init_0 l hM1) ki_X6_init wM_L_76 ⟨⟨rfl, rfl⟩, Nat.le_of_ble_eq_true rfl, Nat.le_of_ble_eq_true rfl⟩ hl (Nat.le_of_ble_eq_true rfl) dL_law_4 ⟨Nat.le_of_ble_eq_true rfl, Nat.le_of_ble_eq_true rfl⟩ (fun ad2 H locs hE2 hw => ?_)
  rw [show ad1 0 = ad2 0 from (hE2 0 (by decide)).symm]
  refine lv_astore_n (lv' := [(1, .ref (ad2 0)), (0, .ref b)]) hx hb dL_law_7 rfl hl (by decide) rfl (fun ls hl => ?_)
  refine n_new (U' := [(109, 1), (109, 8), (109, 9), (109, 10), (109, 11), (109, 16), (109, 17)]) (ci := 7) (T := TX7) (N := 20) (ty0 := tyX7) C wU_X7 tyX7_ok hw (by decide) rfl (by decide) rfl (nOk.of (N := [(109, 1), (109, 8), (109, 9), (109, 10), (109, 11), (109, 16), (109, 17)]) (by decide +kernel) (by decide)) (by decide) dv_X7 wK_L_77 wN_X7 wZ_X7 (Nat.le_of_ble_eq_true rfl) (Nat.le_of_ble_eq_true rfl) dL_law_8 (fun ad3 H hE3 hw => ?_)
  have hw : aW D dA ad3 adV (aGs 110 [(109, 1), (109, 8), (109, 9), (109, 10), (109, 11), (109, 16), (109, 17)] (zR ι1 109)) (fun q : Nat => s.heap.size ≤ q) s H locs := hw
  rw [show ad2 0 = ad3 0 from (hE3 0 (by decide)).symm] at hl
  refine lv_dup hx hb dL_law_11 rfl ?_
  obtain ⟨ι2, hM2, hM⟩ := h_b hM
  refine n_callI (σ' := aGs 125 ([] : List (Nat × Nat)) ι2) (o := 109) (rest := [.ref (ad3 109)]) C hY hw (ci_X7_init_109 l hM2) ki_X7_init wM_L_79 ⟨⟨rfl, rfl⟩, Nat.le_of_ble_eq_true rfl, Nat.le_of_ble_eq_true rfl⟩ hl (Nat.le_of_ble_eq_true rfl) dL_law_12 ⟨Nat.le_of_ble_eq_true rfl, Nat.le_of_ble_eq_true rfl⟩ (fun ad4 H locs hE4 hw => ?_)
  rw [show ad3 109 = ad4 109 from (hE4 109 (by decide)).symm]
  rw [show ad3 0 = ad4 0 from (hE4 0 (by decide)).symm] at hl
  refine lv_astore_n (lv' := [(2, .ref (ad4 109)), (1, .ref (ad4 0)), (0, .ref b)]) hx hb dL_law_15 rfl hl (by decide) rfl (fun ls hl => ?_)
  refine lv_iconst (v := (1 : Int32)) hx hb dL_law_16 (by decide) ?_
  refine n_newa (U' := ([] : List (Nat × Nat))) (ty := .long) (t := 10) C hw (by decide) rfl (nOk.of (N := ([] : List (Nat × Nat))) (by decide +kernel) (by decide)) wA_10 rfl rfl (Or.inr (Or.inr ⟨rfl, rfl⟩)) (by decide) (by decide) (by decide) (Nat.le_of_ble_eq_true rfl) (Nat.le_of_ble_eq_true rfl) dL_law_17 (fun ad5 H hE5 hw => ?_)
  cases h_e hM
  rw [show ad4 0 = ad5 0 from (hE5 0 (by decide)).symm, show ad4 109 = ad5 109 from (hE5 109 (by decide)).symm] at hl
  have hw : aW D dA ad5 adV (aGs 126 ([] : List (Nat × Nat)) (zR ι2 125)) (fun q : Nat => s.heap.size ≤ q) s H locs := hw
  rw [aGs_all] at hw
  refine lv_astore_n (lv' := [(3, .ref (ad5 125)), (2, .ref (ad5 109)), (1, .ref (ad5 0)), (0, .ref b)]) hx hb dL_law_19 rfl hl (by decide) rfl (fun ls hl => ?_)
  refine lv_iconst (v := (0 : Int32)) hx hb dL_law_20 (by decide) ?_
  refine lv_istore (lv' := [(4, .int (0 : Int32)), (3, .ref (ad5 125)), (2, .ref (ad5 109)), (1, .ref (ad5 0)), (0, .ref b)]) hx hb dL_law_21 hl (by decide) rfl (fun ls hl => ?_)
  exact law_loop l (st_flags hflags) C hX hbl hL hstep (by decide) (by decide) (L + 2) 0 (fixP (zR ι2 125)) (by decide) (by omega) hI hw (lv_sub hl [4, 3, 2, 1, 0] rfl)
