/-! one call of a script -/
theorem lg_rf (x : Int64) : lg_cmp x x = 0 := (lg_cmp_eq x x).mpr rfl
theorem st32 {W : Option (Int32 × iS)} {M : iS → Option (Int32 × iS)} (h : Ok32 W M) : ∃ ι9, (Option.bind W fun r => Option.bind (M r.2) fun q => Option.bind (m_X7_thrown q.2) fun t => if t.1 = r.1 then if r.1 = 0 then if (lg_cmp (gJ t.2 125 0) (q.1).toInt64) = 0 then some ((1 : Int32), t.2) else some (0, t.2) else some (1, t.2) else some (0, t.2)) = some (1, ι9) ∧ Inv ι9 := by
  obtain ⟨k, ι1, v, ι2, h1, h2, h3, h4, h5⟩ := h
  refine ⟨ι2, ?_, h5⟩
  rw [h1, Option.bind_some]
  dsimp only
  rw [h2, Option.bind_some]
  unfold m_X7_thrown
  rw [Option.bind_some]
  dsimp only
  rw [if_pos h3]
  by_cases z : k = 0
  · rw [if_pos z, h4 z, lg_rf, if_pos rfl]
  · rw [if_neg z]
theorem st64 {W : Option (Int32 × iS)} {M : iS → Option (Int64 × iS)} (h : Ok64 W M) : ∃ ι9, (Option.bind W fun r => Option.bind (M r.2) fun q => Option.bind (m_X7_thrown q.2) fun t => if t.1 = r.1 then if r.1 = 0 then if (lg_cmp (gJ t.2 125 0) q.1) = 0 then some ((1 : Int32), t.2) else some (0, t.2) else some (1, t.2) else some (0, t.2)) = some (1, ι9) ∧ Inv ι9 := by
  obtain ⟨k, ι1, v, ι2, h1, h2, h3, h4, h5⟩ := h
  refine ⟨ι2, ?_, h5⟩
  rw [h1, Option.bind_some]
  dsimp only
  rw [h2, Option.bind_some]
  unfold m_X7_thrown
  rw [Option.bind_some]
  dsimp only
  rw [if_pos h3]
  by_cases z : k = 0
  · rw [if_pos z, h4 z, lg_rf, if_pos rfl]
  · rw [if_neg z]
theorem stP {X : Option (Int32 × iS)} {M : iS → Option (Int32 × iS)} (h : OkP X M) : ∃ ι9, (Option.bind X fun r => Option.bind (M r.2) fun q => if r.1 = q.1 then some ((1 : Int32), q.2) else some (0, q.2)) = some (1, ι9) ∧ Inv ι9 := by
  obtain ⟨v, ι1, ι2, h1, h2, h3⟩ := h
  refine ⟨ι2, ?_, h3⟩
  rw [h1, Option.bind_some]
  dsimp only
  rw [h2, Option.bind_some]
  dsimp only
  rw [if_pos rfl]
theorem stL {X : Option (Int64 × iS)} {M : iS → Option (Int64 × iS)} (h : OkP X M) : ∃ ι9, (Option.bind X fun r => Option.bind (M r.2) fun q => if (lg_cmp r.1 q.1) = 0 then some ((1 : Int32), q.2) else some (0, q.2)) = some (1, ι9) ∧ Inv ι9 := by
  obtain ⟨v, ι1, ι2, h1, h2, h3⟩ := h
  refine ⟨ι2, ?_, h3⟩
  rw [h1, Option.bind_some]
  dsimp only
  rw [h2, Option.bind_some]
  dsimp only
  rw [lg_rf, if_pos rfl]
theorem law_ok (ι : iS) (a0 a1 a2 a3 a4 a5 : Int32) (h : Inv ι) : ∃ ι9 : iS, lawM a0 a1 a2 a3 a4 a5 ι = some (1, ι9) ∧ Inv ι9 := by
  unfold lawM
  by_cases z : a0 &&& (31 : Int32) = 0
  · rw [if_pos z]; exact stP (ok_feed h a1 a2 a3 a4 a5)
  rw [if_neg z]; clear z
  by_cases z : a0 &&& (31 : Int32) = 1
  · rw [if_pos z]; exact st32 (ok_text h a1)
  rw [if_neg z]; clear z
  by_cases z : a0 &&& (31 : Int32) = 2
  · rw [if_pos z]; exact stP (ok_fault h)
  rw [if_neg z]; clear z
  by_cases z : a0 &&& (31 : Int32) = 3
  · rw [if_pos z]; exact st32 (ok_show h a1)
  rw [if_neg z]; clear z
  by_cases z : a0 &&& (31 : Int32) = 4
  · rw [if_pos z]; exact st32 (ok_hide h a1)
  rw [if_neg z]; clear z
  by_cases z : a0 &&& (31 : Int32) = 5
  · rw [if_pos z]; exact st32 (ok_change h a1 a2)
  rw [if_neg z]; clear z
  by_cases z : a0 &&& (31 : Int32) = 6
  · rw [if_pos z]; exact st32 (ok_mock h a1)
  rw [if_neg z]; clear z
  by_cases z : a0 &&& (31 : Int32) = 7
  · rw [if_pos z]; exact stP (ok_undo h)
  rw [if_neg z]; clear z
  by_cases z : a0 &&& (31 : Int32) = 8
  · rw [if_pos z]; exact st32 (ok_told h a1)
  rw [if_neg z]; clear z
  by_cases z : a0 &&& (31 : Int32) = 9
  · rw [if_pos z]; exact st32 (ok_trait h a1 a2)
  rw [if_neg z]; clear z
  by_cases z : a0 &&& (31 : Int32) = 10
  · rw [if_pos z]; exact st32 (ok_value h a1 a2)
  rw [if_neg z]; clear z
  by_cases z : a0 &&& (31 : Int32) = 11
  · rw [if_pos z]; exact st32 (ok_shown h a1)
  rw [if_neg z]; clear z
  by_cases z : a0 &&& (31 : Int32) = 12
  · rw [if_pos z]
    by_cases y : a2 = 0
    · simp only [if_pos y]; exact st32 (ok_match h a1 0 (Or.inl rfl))
    · simp only [if_neg y]; exact st32 (ok_match h a1 1 (Or.inr rfl))
  rw [if_neg z]; clear z
  by_cases z : a0 &&& (31 : Int32) = 13
  · rw [if_pos z]; exact st32 (ok_mocks h a1)
  rw [if_neg z]; clear z
  by_cases z : a0 &&& (31 : Int32) = 14
  · rw [if_pos z]; exact st32 (ok_alike h a1 a2)
  rw [if_neg z]; clear z
  by_cases z : a0 &&& (31 : Int32) = 15
  · rw [if_pos z]
    by_cases y3 : a3 = 0 <;> by_cases y4 : a4 = 0
    · simp only [if_pos y3, if_pos y4]; exact st64 (ok_chance h a1 a2 0 0 a5 (Or.inl rfl))
    · simp only [if_pos y3, if_neg y4]; exact st64 (ok_chance h a1 a2 0 1 a5 (Or.inl rfl))
    · simp only [if_neg y3, if_pos y4]; exact st64 (ok_chance h a1 a2 1 0 a5 (Or.inr rfl))
    · simp only [if_neg y3, if_neg y4]; exact st64 (ok_chance h a1 a2 1 1 a5 (Or.inr rfl))
  rw [if_neg z]; clear z
  by_cases z : a0 &&& (31 : Int32) = 16
  · rw [if_pos z]; exact st64 (ok_size h a1)
  rw [if_neg z]; clear z
  by_cases z : a0 &&& (31 : Int32) = 17
  · rw [if_pos z]; exact st64 (ok_fairest h a1 a2)
  rw [if_neg z]; clear z
  by_cases z : a0 &&& (31 : Int32) = 18
  · rw [if_pos z]
    by_cases y3 : a2 = 0 <;> by_cases y4 : a3 = 0
    · simp only [if_pos y3, if_pos y4]; exact st64 (ok_odds h a1 0 0 a4)
    · simp only [if_pos y3, if_neg y4]; exact st64 (ok_odds h a1 0 1 a4)
    · simp only [if_neg y3, if_pos y4]; exact st64 (ok_odds h a1 1 0 a4)
    · simp only [if_neg y3, if_neg y4]; exact st64 (ok_odds h a1 1 1 a4)
  rw [if_neg z]; clear z
  by_cases z : a0 &&& (31 : Int32) = 19
  · rw [if_pos z]; exact st32 (ok_cut h a1)
  rw [if_neg z]; clear z
  by_cases z : a0 &&& (31 : Int32) = 20
  · rw [if_pos z]; exact st32 (ok_nudged h a1)
  rw [if_neg z]; clear z
  by_cases z : a0 &&& (31 : Int32) = 21
  · rw [if_pos z]; exact stL (ok_print h)
  rw [if_neg z]; clear z
  by_cases z : a0 &&& (31 : Int32) = 22
  · rw [if_pos z]; exact stP (ok_status h a1)
  rw [if_neg z]
  exact ⟨ι, rfl, h⟩
