section RD
variable {b : Nat → Nat} {n C : Nat} {p e : Nat → Nat}
theorem j_line {ι κ : iS} {k a T P o : Nat} {F : List (Nat × Nat)} (h : Ln b n C p e ι κ k a T P o F) (hkC : k < C) : LnJ b n C p e ι κ k T (dLine (m_X3_readPart ι)) (m_X7_readsLine κ) := by
  obtain ⟨t1, t2, t3⟩ := ln_tests h hkC
  have h5 := h.1.2.2.2.2.1
  have hun : ∀ x, x < 12 → Wd b n x (p k) → ∀ y, y < 12 → y ≠ x → ¬ Wd b n y (p k) := fun x hx hw y hy hne hw2 => hne (Wd_un (fun i hi => (h.1.2.1.2.2 i hi).2) h.1.2.1.1 hy hx hw2 hw)
  by_cases w1 : Wd b n 1 (p k)
  · exact ln_filler h hkC w1 (hun 1 (by omega) w1 3 (by omega) (by omega))
  by_cases w2 : Wd b n 2 (p k)
  · exact ln_told h hkC w2 (hun 2 (by omega) w2)
  by_cases w3 : Wd b n 3 (p k)
  · exact ln_suspect h hkC w3 (hun 3 (by omega) w3)
  by_cases w4 : Wd b n 4 (p k)
  · exact ln_match h hkC w4 (hun 4 (by omega) w4)
  have hRP0 : m_X3_readPart ι = Option.bind (m_X3_settingAt ι) fun r131 => if r131.1 = (-1 : Int32) then Option.bind (m_X3_fail (1 : Int32) r131.2) fun r142 => if r142.1 = 0 ∨ r142.1 = 1 then some (r142.1, r142.2) else none else Option.bind (m_X3_readOnce ((1 : Int32) <<< (r131.1 &&& 31)) r131.2) fun r150 => if r150.1 = 0 then some ((0 : Int32), r150.2) else Option.bind (m_X3_readSetting r131.1 r150.2) fun r158 => if r158.1 = 0 then some ((0 : Int32), r158.2) else some ((1 : Int32), r158.2) := by
    unfold m_X3_readPart
    rw [h5, (t1 1 (by omega)).2 w1, Option.bind_some]
    dsimp only
    rw [if_pos rfl, h5, (t1 2 (by omega)).2 w2, Option.bind_some]
    dsimp only
    rw [if_pos rfl, h5, (t1 3 (by omega)).2 w3, Option.bind_some]
    dsimp only
    rw [if_pos rfl, h5, (t1 4 (by omega)).2 w4, Option.bind_some]
    dsimp only
    rw [if_pos rfl]
  have hset : ∀ i, i < 4 → m_X3_settingAt ι = some (nI i, ι) → m_X3_readPart ι = Option.bind (m_X3_readOnce ((1 : Int32) <<< (nI i &&& 31)) ι) fun r150 => if r150.1 = 0 then some ((0 : Int32), r150.2) else Option.bind (m_X3_readSetting (nI i) r150.2) fun r158 => if r158.1 = 0 then some ((0 : Int32), r158.2) else some ((1 : Int32), r158.2) := fun i hi hs => by
    rw [hRP0, hs, Option.bind_some]
    dsimp only
    rw [if_neg (nI_nm1 (by omega))]
  by_cases w5 : Wd b n 5 (p k)
  · refine ln_set (i := 0) h hkC (by omega) w5 (hun 5 (by omega) w5) (hset 0 (by omega) ?_) (fun hb => ?_)
    · unfold m_X3_settingAt
      rw [h5, (t1 5 (by omega)).1 w5, Option.bind_some]
      rfl
    · unfold m_X7_readsLine
      rw [rl_here h.1, Option.bind_some]
      dsimp only
      rw [show m_X7_takesOnce 3 0 (pI κ 109 4 (nI (p k))) = _ from (t3 3 0 (by omega) (by omega)).1 (Or.inl w3), Option.bind_some]
      dsimp only
      rw [if_pos rfl, (t2 1 (by omega)).2 w1, Option.bind_some]
      dsimp only
      rw [if_pos rfl, (t2 2 (by omega)).2 w2, Option.bind_some]
      dsimp only
      rw [if_pos rfl, show m_X7_takesOnce 5 1 (pI κ 109 4 (nI (p k))) = _ from (t3 5 1 (by omega) (by omega)).2 ⟨w5, hb⟩, Option.bind_some]
      rfl
  by_cases w6 : Wd b n 6 (p k)
  · refine ln_set (i := 1) h hkC (by omega) w6 (hun 6 (by omega) w6) (hset 1 (by omega) ?_) (fun hb => ?_)
    · unfold m_X3_settingAt
      rw [h5, (t1 5 (by omega)).2 w5, Option.bind_some]
      dsimp only
      rw [if_pos rfl, h5, (t1 6 (by omega)).1 w6, Option.bind_some]
      rfl
    · unfold m_X7_readsLine
      rw [rl_here h.1, Option.bind_some]
      dsimp only
      rw [show m_X7_takesOnce 3 0 (pI κ 109 4 (nI (p k))) = _ from (t3 3 0 (by omega) (by omega)).1 (Or.inl w3), Option.bind_some]
      dsimp only
      rw [if_pos rfl, (t2 1 (by omega)).2 w1, Option.bind_some]
      dsimp only
      rw [if_pos rfl, (t2 2 (by omega)).2 w2, Option.bind_some]
      dsimp only
      rw [if_pos rfl, show m_X7_takesOnce 5 1 (pI κ 109 4 (nI (p k))) = _ from (t3 5 1 (by omega) (by omega)).1 (Or.inl w5), Option.bind_some]
      dsimp only
      rw [if_pos rfl, show m_X7_takesOnce 6 2 (pI κ 109 4 (nI (p k))) = _ from (t3 6 2 (by omega) (by omega)).2 ⟨w6, hb⟩, Option.bind_some]
      rfl
  by_cases w7 : Wd b n 7 (p k)
  · refine ln_set (i := 2) h hkC (by omega) w7 (hun 7 (by omega) w7) (hset 2 (by omega) ?_) (fun hb => ?_)
    · unfold m_X3_settingAt
      rw [h5, (t1 5 (by omega)).2 w5, Option.bind_some]
      dsimp only
      rw [if_pos rfl, h5, (t1 6 (by omega)).2 w6, Option.bind_some]
      dsimp only
      rw [if_pos rfl, h5, (t1 7 (by omega)).1 w7, Option.bind_some]
      rfl
    · unfold m_X7_readsLine
      rw [rl_here h.1, Option.bind_some]
      dsimp only
      rw [show m_X7_takesOnce 3 0 (pI κ 109 4 (nI (p k))) = _ from (t3 3 0 (by omega) (by omega)).1 (Or.inl w3), Option.bind_some]
      dsimp only
      rw [if_pos rfl, (t2 1 (by omega)).2 w1, Option.bind_some]
      dsimp only
      rw [if_pos rfl, (t2 2 (by omega)).2 w2, Option.bind_some]
      dsimp only
      rw [if_pos rfl, show m_X7_takesOnce 5 1 (pI κ 109 4 (nI (p k))) = _ from (t3 5 1 (by omega) (by omega)).1 (Or.inl w5), Option.bind_some]
      dsimp only
      rw [if_pos rfl, show m_X7_takesOnce 6 2 (pI κ 109 4 (nI (p k))) = _ from (t3 6 2 (by omega) (by omega)).1 (Or.inl w6), Option.bind_some]
      dsimp only
      rw [if_pos rfl, show m_X7_takesOnce 7 3 (pI κ 109 4 (nI (p k))) = _ from (t3 7 3 (by omega) (by omega)).2 ⟨w7, hb⟩, Option.bind_some]
      rfl
  by_cases w8 : Wd b n 8 (p k)
  · refine ln_set (i := 3) h hkC (by omega) w8 (hun 8 (by omega) w8) (hset 3 (by omega) ?_) (fun hb => ?_)
    · unfold m_X3_settingAt
      rw [h5, (t1 5 (by omega)).2 w5, Option.bind_some]
      dsimp only
      rw [if_pos rfl, h5, (t1 6 (by omega)).2 w6, Option.bind_some]
      dsimp only
      rw [if_pos rfl, h5, (t1 7 (by omega)).2 w7, Option.bind_some]
      dsimp only
      rw [if_pos rfl, h5, (t1 8 (by omega)).1 w8, Option.bind_some]
      rfl
    · unfold m_X7_readsLine
      rw [rl_here h.1, Option.bind_some]
      dsimp only
      rw [show m_X7_takesOnce 3 0 (pI κ 109 4 (nI (p k))) = _ from (t3 3 0 (by omega) (by omega)).1 (Or.inl w3), Option.bind_some]
      dsimp only
      rw [if_pos rfl, (t2 1 (by omega)).2 w1, Option.bind_some]
      dsimp only
      rw [if_pos rfl, (t2 2 (by omega)).2 w2, Option.bind_some]
      dsimp only
      rw [if_pos rfl, show m_X7_takesOnce 5 1 (pI κ 109 4 (nI (p k))) = _ from (t3 5 1 (by omega) (by omega)).1 (Or.inl w5), Option.bind_some]
      dsimp only
      rw [if_pos rfl, show m_X7_takesOnce 6 2 (pI κ 109 4 (nI (p k))) = _ from (t3 6 2 (by omega) (by omega)).1 (Or.inl w6), Option.bind_some]
      dsimp only
      rw [if_pos rfl, show m_X7_takesOnce 7 3 (pI κ 109 4 (nI (p k))) = _ from (t3 7 3 (by omega) (by omega)).1 (Or.inl w7), Option.bind_some]
      dsimp only
      rw [if_pos rfl, show m_X7_takesOnce 8 4 (pI κ 109 4 (nI (p k))) = _ from (t3 8 4 (by omega) (by omega)).2 ⟨w8, hb⟩, Option.bind_some]
      rfl
  refine ln_none h hkC w1 w2 (fun x j hx => Or.inl ?_) ?_
  · rcases hx with ⟨rfl, -⟩ | ⟨rfl, -⟩ | ⟨rfl, -⟩ | ⟨rfl, -⟩ | ⟨rfl, -⟩ | ⟨rfl, -⟩ <;> assumption
  · have hs : m_X3_settingAt ι = some (-1, ι) := by
      unfold m_X3_settingAt
      rw [h5, (t1 5 (by omega)).2 w5, Option.bind_some]
      dsimp only
      rw [if_pos rfl, h5, (t1 6 (by omega)).2 w6, Option.bind_some]
      dsimp only
      rw [if_pos rfl, h5, (t1 7 (by omega)).2 w7, Option.bind_some]
      dsimp only
      rw [if_pos rfl, h5, (t1 8 (by omega)).2 w8, Option.bind_some]
      rfl
    rw [hRP0, hs, Option.bind_some]
    dsimp only
    rw [if_pos rfl, show m_X3_fail 1 ι = some (0, fl ι 1 (p k)) from d_fail h.1 1, Option.bind_some]
    dsimp only
    rw [if_pos (Or.inl rfl)]
/-- a text's last steps: a place for its fault, or the rates -/
def dTl (ι : iS) : Option (Int32 × iS) := if (gI ι 11 4) = 0 then if (gI (pI ι 11 2 (-1 : Int32)) 11 4) = 0 then Option.bind (m_X1_rate 12 (pI ι 11 2 (-1 : Int32))) fun r164 => Option.bind (m_X2_showFirst 12 r164) fun r171 => some ((gI r171 11 4), r171) else some ((gI (pI ι 11 2 (-1 : Int32)) 11 4), (pI ι 11 2 (-1 : Int32))) else Option.bind (m_X4_placeAt (gI ι 11 5) ι) fun r143 => if (gI (pI r143.2 11 2 r143.1) 11 4) = 0 then Option.bind (m_X1_rate 12 (pI r143.2 11 2 r143.1)) fun r164 => Option.bind (m_X2_showFirst 12 r164) fun r171 => some ((gI r171 11 4), r171) else some ((gI (pI r143.2 11 2 r143.1) 11 4), (pI r143.2 11 2 r143.1))
def dEnd (ι : iS) : Option (Int32 × iS) := if (gI ι 11 4) = 0 then if ((gI ι 11 6) &&& (16 : Int32)) = 0 then Option.bind (m_X3_fail (5 : Int32) ι) fun r119 => dTl r119.2 else dTl ι else dTl ι
theorem read51 (m : Nat) (y2 y3 y4 : Int32) (ι : iS) : l_X3_read_46 (m + 1) y2 y3 y4 ι = if (500 : Int32) ≤ y4 then dEnd ι else if y3 = 0 then dEnd ι else Option.bind (m_X4_isEnd (gI ι 11 5) ι) fun r71 => if r71.1 = 0 then Option.bind (m_X3_readPart r71.2) fun r78 => if r78.1 = 0 then l_X3_read_46 m y2 (0 : Int32) (y4 + 1) r78.2 else Option.bind (m_X3_readSign (59 : Int32) r78.2) fun r87 => if r87.1 = 0 then l_X3_read_46 m y2 (0 : Int32) (y4 + 1) r87.2 else l_X3_read_46 m y2 (1 : Int32) (y4 + 1) r87.2 else dEnd r71.2 := by
  rw [l_X3_read_46]
  rfl
def mTail (y1 : Int32) (κ : iS) : Option (Int32 × iS) := Option.bind (m_X7_fine (pI κ 109 5 (gI κ 109 7))) fun r172 => if r172.1 = 0 then some (((gI r172.2 109 6) - (10 : Int32)), r172.2) else Option.bind (m_X7_less (8 : Int32) ((1 : Int32) + (gI r172.2 113 1)) r172.2) fun r201 => l_X7_text_207 aF y1 (0 : Int32) (pI r201.2 113 3 r201.1)
def mEnd (y1 : Int32) (κ : iS) : Option (Int32 × iS) := Option.bind (m_X7_fine κ) fun r139 => if r139.1 = 0 then mTail y1 r139.2 else if (gI r139.2 113 2) = 0 then Option.bind (m_X7_wrong (5 : Int32) (gI r139.2 109 3) r139.2) fun r160 => mTail y1 r160 else mTail y1 r139.2
theorem text116 (m : Nat) (y1 : Int32) (κ : iS) : l_X7_text_116 (m + 1) y1 κ = Option.bind (m_X7_fine κ) fun r117 => if r117.1 = 0 then mEnd y1 r117.2 else Option.bind (m_X7_here r117.2) fun r124 => if r124.1 = (-1 : Int32) then mEnd y1 r124.2 else Option.bind (m_X7_readsLine r124.2) fun r132 => l_X7_text_116 m y1 r132 := by
  rw [l_X7_text_116]
  rfl
/-- how the lines come to their end -/
def RdJ (b : Nat → Nat) (n C : Nat) (p e : Nat → Nat) (ι κ : iS) (T : Nat) (y1 : Int32) (Dk Mk : Option (Int32 × iS)) : Prop :=
  (∃ ι' κ' P o F, Dk = dEnd ι' ∧ Mk = mEnd y1 κ' ∧ Ln b n C p e ι' κ' C n T P o F ∧ DW ι ι' ∧ MW κ κ') ∨ (∃ ι' κ' f s, Dk = dEnd ι' ∧ Mk = mEnd y1 κ' ∧ Flt ι' κ' f s ∧ DW ι ι' ∧ MW κ κ')
theorem d_rstop {m : Nat} {y2 y4 : Int32} {ι : iS} (hm : 0 < m) : l_X3_read_46 m y2 0 y4 ι = dEnd ι := by
  obtain ⟨m, rfl⟩ : ∃ q, m = q + 1 := ⟨m - 1, by omega⟩
  rw [read51]
  by_cases h : (500 : Int32) ≤ y4
  · rw [if_pos h]
  · rw [if_neg h, if_pos rfl]
theorem m_rstop {m : Nat} {y1 : Int32} {κ : iS} (hm : 0 < m) (h : ¬ gI κ 109 6 = 0) : l_X7_text_116 m y1 κ = mEnd y1 κ := by
  obtain ⟨m, rfl⟩ : ∃ q, m = q + 1 := ⟨m - 1, by omega⟩
  rw [text116, m_fine_n h, Option.bind_some]
  rfl
theorem Ln_here {ι κ : iS} {k a T P o : Nat} {F : List (Nat × Nat)} (h : Ln b n C p e ι κ k a T P o F) : Ln b n C p e ι (pI κ 109 4 (nI (p k))) k (p k) T P o F := by
  obtain ⟨h1, h2, h3, h4, h5⟩ := h
  exact ⟨Pos_here h1, DrR_cg h2 (fun _ _ _ _ => rfl) (fun _ _ => rfl) (fun i _ => gI_p2 _ _ (by omega)) (fun i _ => gI_p2 _ _ (by omega)), FR_cg h3 (fun _ _ _ => rfl) (gI_p2 _ _ (by omega)) (fun _ _ => gI_p2 _ _ (by omega)), h4, by rw [gI_p2 _ _ (by omega)]; exact h5⟩
theorem j_read {T : Nat} {y1 y2 : Int32} : ∀ d k a j m1 m2 ι κ P o F, C - k ≤ d → Ln b n C p e ι κ k a T P o F → j ≤ k → d < m1 → d + 1 < m1 → d + 1 < m2 → RdJ b n C p e ι κ T y1 (l_X3_read_46 m1 y2 1 (nI j) ι) (l_X7_text_116 m2 y1 κ) := by
  intro d
  induction d using Nat.strongRecOn with
  | ind d ih =>
    intro k a j m1 m2 ι κ P o F hd h hj hm1 hm1' hm2
    obtain ⟨m1, rfl⟩ : ∃ q, m1 = q + 1 := ⟨m1 - 1, by omega⟩
    obtain ⟨m2, rfl⟩ : ∃ q, m2 = q + 1 := ⟨m2 - 1, by omega⟩
    obtain ⟨hT, hM, h4, h6, h5, hk, hat, hc⟩ := id h.1
    have hb := Pos_a h.1
    have hbb : p k < n → b (p k) < 256 := fun q => (hM.2.2 _ q).2
    have hk1 := Pos_lt h.1
    have hlh := Ln_here h
    rw [text116, m_fine_y h6, Option.bind_some]
    dsimp only
    rw [if_neg i10, m_here hM hat hc, Option.bind_some]
    dsimp only
    rw [read51, h5, d_isEnd hT hk]
    by_cases hkC : k = C
    · have hpn : p k = n := by rw [hkC]; exact hT.2.2.2.2.2.2.1
      have hD : (if (500 : Int32) ≤ nI j then dEnd ι else if (1 : Int32) = 0 then dEnd ι else Option.bind (some ((if k = C then (1 : Int32) else 0), ι)) fun r71 => if r71.1 = 0 then Option.bind (m_X3_readPart r71.2) fun r78 => if r78.1 = 0 then l_X3_read_46 m1 y2 (0 : Int32) (nI j + 1) r78.2 else Option.bind (m_X3_readSign (59 : Int32) r78.2) fun r87 => if r87.1 = 0 then l_X3_read_46 m1 y2 (0 : Int32) (nI j + 1) r87.2 else l_X3_read_46 m1 y2 (1 : Int32) (nI j + 1) r87.2 else dEnd r71.2) = dEnd ι := by
        by_cases z : (500 : Int32) ≤ nI j
        · rw [if_pos z]
        · rw [if_neg z, if_neg i10, if_pos hkC, Option.bind_some]
          dsimp only
          rw [if_neg i10]
      rw [hD, if_pos ((bq_m1 hbb).mpr (by omega))]
      rw [hkC, hT.2.2.2.2.2.2.1] at hlh
      refine Or.inl ⟨ι, pI κ 109 4 (nI n), P, o, F, rfl, ?_, hlh, DW.rf ι, (MW.rf κ).at' (k := 4) _ (by omega)⟩
      rw [hpn]
    · have hkC2 : k < C := by omega
      rw [if_neg (show ¬ (500 : Int32) ≤ nI j from nI_ge (a := j) (b := 500) (by omega) (by omega)), if_neg i10, if_neg hkC, Option.bind_some]
      dsimp only
      rw [if_pos rfl, if_neg (fun w => (bq_m1 hbb).mp w (hk1.mp hkC2))]
      rcases j_line hlh hkC2 with ⟨ι', κ', k', a', P', o', F', e1, e2, e3, e4, e5, e6⟩ | ⟨ι', κ', f, s, e1, e2, e3, e4, e5⟩
      · have hdl : (Option.bind (m_X3_readPart ι) fun r78 => if r78.1 = 0 then l_X3_read_46 m1 y2 (0 : Int32) (nI j + 1) r78.2 else Option.bind (m_X3_readSign (59 : Int32) r78.2) fun r87 => if r87.1 = 0 then l_X3_read_46 m1 y2 (0 : Int32) (nI j + 1) r87.2 else l_X3_read_46 m1 y2 (1 : Int32) (nI j + 1) r87.2) = l_X3_read_46 m1 y2 1 (nI j + 1) ι' := by
          unfold dLine at e1
          obtain ⟨r78, q1, q2⟩ := h_b e1
          rw [q1, Option.bind_some]
          by_cases z : r78.1 = 0
          · rw [if_pos z] at q2
            have := (Prod.ext_iff.mp (Option.some.inj q2)).1
            exact absurd this.symm i10
          · rw [if_neg z] at q2 ⊢
            obtain ⟨r87, q3, q4⟩ := h_b q2
            have q4 := Option.some.inj q4
            have q5 := (Prod.ext_iff.mp q4).1
            have q6 := (Prod.ext_iff.mp q4).2
            dsimp only at q5 q6
            rw [q3, Option.bind_some, q5, if_neg i10, q6]
        rw [hdl, e2, Option.bind_some, nI_1]
        rcases ih (C - k') (by omega) k' a' (j + 1) m1 m2 ι' κ' P' o' F' (Nat.le_refl _) e3 (by omega) (by omega) (by omega) (by omega) with ⟨ι9, κ9, P9, o9, F9, g1, g2, g3, g4, g5⟩ | ⟨ι9, κ9, f, s, g1, g2, g3, g4, g5⟩
        · exact Or.inl ⟨ι9, κ9, P9, o9, F9, g1, g2, g3, e5.tr g4, (((MW.rf κ).at' (k := 4) _ (by omega)).tr e6).tr g5⟩
        · exact Or.inr ⟨ι9, κ9, f, s, g1, g2, g3, e5.tr g4, (((MW.rf κ).at' (k := 4) _ (by omega)).tr e6).tr g5⟩
      · have hdl : (Option.bind (m_X3_readPart ι) fun r78 => if r78.1 = 0 then l_X3_read_46 m1 y2 (0 : Int32) (nI j + 1) r78.2 else Option.bind (m_X3_readSign (59 : Int32) r78.2) fun r87 => if r87.1 = 0 then l_X3_read_46 m1 y2 (0 : Int32) (nI j + 1) r87.2 else l_X3_read_46 m1 y2 (1 : Int32) (nI j + 1) r87.2) = dEnd ι' := by
          unfold dLine at e1
          obtain ⟨r78, q1, q2⟩ := h_b e1
          rw [q1, Option.bind_some]
          by_cases z : r78.1 = 0
          · rw [if_pos z] at q2
            have q6 := (Prod.ext_iff.mp (Option.some.inj q2)).2
            dsimp only at q6
            rw [if_pos z, d_rstop (by omega), q6]
          · rw [if_neg z] at q2 ⊢
            obtain ⟨r87, q3, q4⟩ := h_b q2
            have q4 := Option.some.inj q4
            have q5 := (Prod.ext_iff.mp q4).1
            have q6 := (Prod.ext_iff.mp q4).2
            dsimp only at q5 q6
            rw [q3, Option.bind_some, q5, if_pos rfl, d_rstop (by omega), q6]
        rw [hdl, e2, Option.bind_some, m_rstop (by omega) (Flt_6 e3)]
        exact Or.inr ⟨ι', κ', f, s, rfl, rfl, e3, e4, ((MW.rf κ).at' (k := 4) _ (by omega)).tr e5⟩
end RD
