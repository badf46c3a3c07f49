/-! the calls that only ask -/
theorem i10 : ¬ (1 : Int32) = 0 := by decide
theorem ok_refuse {W : Option (Int32 × iS)} {M : iS → Option (Int32 × iS)} {ι : iS} (hI : Inv ι) {e : Nat} {c v : Int32} (he : e < 3) (hc : ¬ c = 0) (hW : W = some (c, pI ι 30 e (gI ι 30 e + 1))) (hM : M (pI ι 30 e (gI ι 30 e + 1)) = some (v, pI (pI (pI (pI ι 30 e (gI ι 30 e + 1)) 109 0 0) 109 0 c) 110 e (gI (pI (pI ι 30 e (gI ι 30 e + 1)) 109 0 0) 110 e + 1))) : Ok32 W M := by
  refine ⟨c, _, v, _, hW, hM, ?_, fun h => absurd h hc, Inv_ref hI he ⟨fun o k hs => ?_, fun k => rfl⟩⟩
  · rw [gI_p2 _ _ (by omega), gI_p1]
  · rw [gI_p2 (x := 110) (y := e) _ _ (by omega), gI_p2 (x := 110) (y := e) _ _ (by omega)]
    have h0 : ¬ (o = 109 ∧ k = 0) := fun h => by rw [h.1, h.2] at hs; revert hs; decide
    simp only [gI_pI, if_neg h0]
theorem ok_refuse64 {W : Option (Int32 × iS)} {M : iS → Option (Int64 × iS)} {ι : iS} (hI : Inv ι) {e : Nat} {c : Int32} {v : Int64} (he : e < 3) (hc : ¬ c = 0) (hW : W = some (c, pI ι 30 e (gI ι 30 e + 1))) (hM : M (pI ι 30 e (gI ι 30 e + 1)) = some (v, pI (pI (pI (pI ι 30 e (gI ι 30 e + 1)) 109 0 0) 109 0 c) 110 e (gI (pI (pI ι 30 e (gI ι 30 e + 1)) 109 0 0) 110 e + 1))) : Ok64 W M := by
  refine ⟨c, _, v, _, hW, hM, ?_, fun h => absurd h hc, Inv_ref hI he ⟨fun o k hs => ?_, fun k => rfl⟩⟩
  · rw [gI_p2 _ _ (by omega), gI_p1]
  · rw [gI_p2 (x := 110) (y := e) _ _ (by omega), gI_p2 (x := 110) (y := e) _ _ (by omega)]
    have h0 : ¬ (o = 109 ∧ k = 0) := fun h => by rw [h.1, h.2] at hs; revert hs; decide
    simp only [gI_pI, if_neg h0]
theorem ok_ask {W : Option (Int32 × iS)} {M : iS → Option (Int32 × iS)} {ι : iS} (hI : Inv ι) {v : Int32} (hW : W = some (0, pJ ι 125 0 v.toInt64)) (hM : M (pJ ι 125 0 v.toInt64) = some (v, pI (pJ ι 125 0 v.toInt64) 109 0 0)) : Ok32 W M :=
  ⟨0, _, v, _, hW, hM, rfl, fun _ => rfl, Inv_sm ((Sm.rf ι).pJ.pI scr_t) hI⟩
theorem ok_ask2 {W : Option (Int32 × iS)} {M : iS → Option (Int32 × iS)} {ι ι1 ι2 : iS} (hI : Inv ι) {v : Int32} (hW : W = some (0, pJ ι1 125 0 v.toInt64)) (hM : M (pJ ι1 125 0 v.toInt64) = some (v, ι2)) (h0 : gI ι2 109 0 = 0) (hj : gJ ι2 125 0 = v.toInt64) (hs : Sm ι ι2) : Ok32 W M :=
  ⟨0, _, v, _, hW, hM, h0, fun _ => hj, Inv_sm hs hI⟩
theorem ok_ask64 {W : Option (Int32 × iS)} {M : iS → Option (Int64 × iS)} {ι ι1 ι2 : iS} (hI : Inv ι) {v : Int64} (hW : W = some (0, pJ ι1 125 0 v)) (hM : M (pJ ι1 125 0 v) = some (v, ι2)) (h0 : gI ι2 109 0 = 0) (hj : gJ ι2 125 0 = v) (hs : Sm ι ι2) : Ok64 W M :=
  ⟨0, _, v, _, hW, hM, h0, fun _ => hj, Inv_sm hs hI⟩
theorem ok_shown {ι : iS} (h : Inv ι) (x : Int32) : Ok32 (w_shown x ι) (m_X7_shown x) := by
  obtain ⟨⟨T, P, S, F, ⟨⟨hT, hP, hS⟩, ⟨⟨b0, r0⟩, ⟨b1, r1⟩, ⟨b2, r2⟩⟩, hset, hval, htold, hord, hinj, hmock⟩, hcod, hmt⟩, -⟩ := id h
  have b2 : gI ι 2 2 = nI S := b2
  rcases (show (x < 0 ∨ nI S ≤ x) ∨ ∃ j : Nat, j < S ∧ x = nI j from or_assoc.mpr (pk_ix x (n := S) (by omega))) with hx | ⟨j, hj, rfl⟩
  · refine ok_refuse h (e := 0) (c := 1) (v := 0) (by omega) i10 ?_ ?_
    · unfold w_shown m_X6_shown
      rw [d_nl_x b2 hx]
      rfl
    · unfold m_X7_shown
      rw [m_isPlace_x (S := S) (h := hx) (hS := hS), Option.bind_some]
      · dsimp only
        rw [if_pos rfl, show m_X7_bad 1 1 0 = m_X7_bad 1 1 (nI 0) from rfl, m_bad_1 (e := 0) (hc := i10) (he := by omega)]
        · rfl
        · rfl
      · exact r2
  · refine ok_ask h (v := gI ι 112 (99 + j)) ?_ ?_
    · unfold w_shown m_X6_shown
      rw [d_nl_j b2 hj (by omega), Option.bind_some]
      dsimp only
      rw [if_pos (aIn_nI (by omega) (by omega)), nI_clamp (by omega), Option.bind_some]
      dsimp only
      rw [show gI ι 7 j = gI ι 112 (99 + j) from (hord j hj).1]
    · unfold m_X7_shown
      rw [m_isPlace_j (S := S) (h := hj) (hS := hS), Option.bind_some]
      · dsimp only
        rw [if_neg i10, m_bad_0, Option.bind_some]
        · dsimp only
          rw [if_pos rfl, show (99 : Int32) + nI j = nI (99 + j) from nI_add 99 j, if_pos (aIn_nI (by omega) (by omega)), nI_clamp (by omega)]
          rfl
        · rfl
      · exact r2
