/-! what holds at the start -/
theorem gI_zR (ι : iS) (o x y : Nat) : gI (zR ι o) x y = if x = o then 0 else gI ι x y := by
  show (if x = o then fun _ => 0 else gI ι x) y = _
  by_cases h : x = o <;> simp [h]
theorem gI_z1 (ι : iS) (o y : Nat) : gI (zR ι o) o y = 0 := by rw [gI_zR, if_pos rfl]
theorem gI_z2 (ι : iS) {o x : Nat} (y : Nat) (h : x ≠ o) : gI (zR ι o) x y = gI ι x y := by rw [gI_zR, if_neg h]
theorem s_X2 (o : Nat) (ι : iS) : ∃ ι', mi_X2 o ι = some ι' ∧ Clr ι' o ∧ (∀ y i, (y < o ∨ o + 8 < y) → gI ι' y i = gI ι y i) := by
  obtain ⟨ι', e1, e2, e3, -, -⟩ := d_clear (o := o) (zR (zR (zR (zR (zR (zR (zR (zR (pI (pI (pI ι o 0 (0 : Int32)) o 1 (1 : Int32)) o 2 (0 : Int32)) (o + 1)) (o + 2)) (o + 3)) (o + 4)) (o + 5)) (o + 6)) (o + 7)) (o + 8))
  refine ⟨ι', by unfold mi_X2; rw [e1, Option.bind_some], e2, fun y i q => ?_⟩
  rw [e3 y i (by omega) (by omega) (by omega) (by omega) (by omega), gI_z2 _ _ (by omega), gI_z2 _ _ (by omega), gI_z2 _ _ (by omega), gI_z2 _ _ (by omega), gI_z2 _ _ (by omega), gI_z2 _ _ (by omega), gI_z2 _ _ (by omega), gI_z2 _ _ (by omega), gI_p2 _ _ (by omega), gI_p2 _ _ (by omega), gI_p2 _ _ (by omega)]
theorem s_X3 (ι : iS) : ∃ ι', mi_X3 ι = some ι' ∧ gI ι' 21 2 = 0 ∧ (∀ y i, (y < 11 ∨ 28 < y) → gI ι' y i = gI ι y i) := by
  obtain ⟨ι1, e1, e2, e3⟩ := s_X2 12 (zR ι 12)
  unfold mi_X3 mi_X1 mi_X4
  rw [e1, Option.bind_some, Option.bind_some, Option.bind_some]
  refine ⟨_, rfl, ?_, fun y i q => ?_⟩
  · rw [gI_p2 _ _ (by omega), gI_p2 _ _ (by omega), gI_p2 _ _ (by omega), gI_p2 _ _ (by omega), gI_z2 _ _ (by omega), gI_p2 _ _ (by omega), gI_z2 _ _ (by omega), gI_z2 _ _ (by omega), gI_z2 _ _ (by omega), gI_z2 _ _ (by omega), gI_p2 _ _ (by omega), gI_p1]
  · rw [gI_p2 _ _ (by omega), gI_p2 _ _ (by omega), gI_p2 _ _ (by omega), gI_p2 _ _ (by omega), gI_z2 _ _ (by omega), gI_p2 _ _ (by omega), gI_z2 _ _ (by omega), gI_z2 _ _ (by omega), gI_z2 _ _ (by omega), gI_z2 _ _ (by omega), gI_p2 _ _ (by omega), gI_p2 _ _ (by omega), gI_z2 _ _ (by omega), gI_z2 _ _ (by omega), gI_z2 _ _ (by omega), e3 y i (by omega), gI_z2 _ _ (by omega)]
theorem s_X5 (o : Nat) (ι : iS) : ∃ ι', mi_X5 o ι = some ι' ∧ (∀ y i, (y < o ∨ o + 1 < y) → gI ι' y i = gI ι y i) := by
  unfold mi_X5
  refine ⟨_, rfl, fun y i q => ?_⟩
  rw [gI_p2 _ _ (by omega), gI_p2 _ _ (by omega), gI_p2 _ _ (by omega), gI_z2 _ _ (by omega), gI_p2 _ _ (by omega)]
theorem s_X0 (ι : iS) : ∃ ι', mi_X0 ι = some ι' ∧ (∀ y i, (y < 35 ∨ 36 < y) → gI ι' y i = gI ι y i) := by
  unfold mi_X0
  refine ⟨_, rfl, fun y i q => ?_⟩
  rw [gI_z2 _ _ (by omega), gI_p2 _ _ (by omega), gI_p2 _ _ (by omega), gI_pJ, gI_pJ, gI_p2 _ _ (by omega)]
/-- the first suspect: one trait, told 5, weight 3, value 5 -/
def One (ι : iS) : Prop := gI ι 21 2 = 0 ∧ gI ι 2 0 = 1 ∧ gI ι 2 1 = 1 ∧ gI ι 3 0 = 5 ∧ gI ι 4 0 = 5 ∧ gI ι 5 0 = 3
theorem s_diff {ι : iS} (h : One ι) (g : Int32) : m_X2_differenceOf 2 0 0 g ι = some (0, ι) := by
  obtain ⟨h1, h2, h3, h4, h5, h6⟩ := h
  unfold m_X2_differenceOf
  rw [show (0 : Int32) * 5 + 0 = 0 by decide, show (0 : Int32) + 0 = 0 by decide, show (0 : Int32).toNatClampNeg = 0 by decide, show gI ι (2 + 3) 0 = 3 from h6, show gI ι (2 + 1) 0 = 5 from h4, show gI ι (2 + 2) 0 = 5 from h5]
  by_cases hg : g = 0
  · rw [if_pos hg]; rfl
  · rw [if_neg hg]; rfl
theorem s_rateOne {ι : iS} (h : One ι) (g : Int32) : m_X1_rateOne 2 0 g ι = some (27, ι) := by
  obtain ⟨h1, h2, h3, h4, h5, h6⟩ := id h
  have e : m_X1_plainRate 2 0 g ι = some (27, ι) := by
    unfold m_X1_plainRate
    rw [show aF = 69998 + 1 + 1 from rfl, l_X1_plainRate_5, h2, if_neg (by decide), if_pos (by decide), s_diff h, Option.bind_some]
    dsimp only
    rw [show (0 : Int32).toNatClampNeg = 0 by decide, show gI ι (2 + 3) 0 = 3 from h6, l_X1_plainRate_5, h2, if_pos (by decide)]
    rfl
  unfold m_X1_rateOne
  rw [if_pos h1, e, Option.bind_some]
  rfl
theorem s_rate {ι : iS} (h : One ι) : m_X1_rate 2 ι = some (pI (pI ι 9 0 27) 10 0 27) := by
  have h' : One (pI ι 9 0 27) := by
    obtain ⟨h1, h2, h3, h4, h5, h6⟩ := h
    refine ⟨?_, ?_, ?_, ?_, ?_, ?_⟩ <;> rw [gI_p2 _ _ (by omega)] <;> assumption
  unfold m_X1_rate
  rw [show aF = 69998 + 1 + 1 from rfl, l_X1_rate_2, h.2.2.1, if_neg (by decide), s_rateOne h, Option.bind_some]
  dsimp only
  rw [if_pos (by decide), show (0 : Int32).toNatClampNeg = 0 by decide, show m_X1_rateOne 2 0 1 (pI ι (2 + 7) 0 27) = some (27, pI ι 9 0 27) from s_rateOne h' 1, Option.bind_some]
  dsimp only
  rw [if_pos (by decide), l_X1_rate_2, gI_p2 _ _ (by omega), h'.2.2.1, if_pos (by decide)]
theorem s_first {ι : iS} (h : gI ι 2 1 = 1) : m_X2_showFirst 2 ι = some (pI (pI ι 2 2 1) 7 0 0) := by
  unfold m_X2_showFirst
  rw [h, if_neg (by decide), show aF = 69998 + 1 + 1 from rfl, l_X2_showFirst_15, gI_p1, if_neg (by decide), if_pos (by decide), l_X2_showFirst_15, gI_p2 _ _ (by omega), gI_p1, if_pos (by decide)]
  rfl
theorem s_X6 (ι : iS) : ∃ ι', mi_X6 ι = some ι' ∧ gI ι' 0 1 = 0 ∧ gI ι' 0 5 = 0 ∧ gI ι' 0 6 = -1 ∧ (∀ k, gI ι' 30 k = 0) ∧ One ι' ∧ gI ι' 2 2 = 1 ∧ gI ι' 7 0 = 0 ∧ gI ι' 9 0 = 27 ∧ gI ι' 10 0 = 27 ∧ (∀ t, 0 < t → t < 5 → gI ι' 4 t = -1 ∧ gI ι' 5 t = 0) ∧ (∀ i, i < 4 → gI ι' 6 i = aSt 2 i) ∧ ∀ i, i < 16 → gI ι' 8 i = 0 := by
  obtain ⟨i1, a1, c1, f1⟩ := s_X2 2 (zR (pI (zR ι 1) 0 1 (0 : Int32)) 2)
  obtain ⟨i2, a2, c2, f2⟩ := s_X3 (zR i1 11)
  obtain ⟨i3, a3, f3⟩ := s_X5 31 (zR (zR (pI (pI (zR i2 29) 0 5 (0 : Int32)) 0 6 (-1 : Int32)) 30) 31)
  obtain ⟨i4, a4, f4⟩ := s_X5 33 (zR i3 33)
  obtain ⟨i5, a5, f5⟩ := s_X0 (zR i4 35)
  obtain ⟨j1, b1, -, g1⟩ := s_X2 37 (zR i5 37)
  obtain ⟨j2, b2, -, g2⟩ := s_X2 46 (zR j1 46)
  obtain ⟨j3, b3, -, g3⟩ := s_X2 55 (zR j2 55)
  obtain ⟨j4, b4, -, g4⟩ := s_X2 64 (zR j3 64)
  obtain ⟨j5, b5, -, g5⟩ := s_X2 73 (zR j4 73)
  obtain ⟨j6, b6, -, g6⟩ := s_X2 82 (zR j5 82)
  obtain ⟨j7, b7, -, g7⟩ := s_X2 91 (zR j6 91)
  obtain ⟨j8, b8, -, g8⟩ := s_X2 100 (zR j7 100)
  have q5 : ∀ y i, y < 37 → gI j8 y i = gI i5 y i := fun y i q => by
    rw [g8 y i (by omega), gI_z2 _ _ (by omega), g7 y i (by omega), gI_z2 _ _ (by omega), g6 y i (by omega), gI_z2 _ _ (by omega), g5 y i (by omega), gI_z2 _ _ (by omega), g4 y i (by omega), gI_z2 _ _ (by omega), g3 y i (by omega), gI_z2 _ _ (by omega), g2 y i (by omega), gI_z2 _ _ (by omega), g1 y i (by omega), gI_z2 _ _ (by omega)]
  have q3 : ∀ y i, y < 31 → gI j8 y i = gI (zR (pI (pI (zR i2 29) 0 5 (0 : Int32)) 0 6 (-1 : Int32)) 30) y i := fun y i q => by
    rw [q5 y i (by omega), f5 y i (by omega), gI_z2 _ _ (by omega), f4 y i (by omega), gI_z2 _ _ (by omega), f3 y i (by omega), gI_z2 _ _ (by omega)]
  have q2 : ∀ y i, y < 29 → ¬ (y = 0 ∧ (i = 5 ∨ i = 6)) → gI j8 y i = gI i2 y i := fun y i w1 w2 => by
    rw [q3 y i (by omega), gI_z2 _ _ (by omega), gI_p2 _ _ (by omega), gI_p2 _ _ (by omega), gI_z2 _ _ (by omega)]
  have q1 : ∀ y i, y < 11 → ¬ (y = 0 ∧ (i = 5 ∨ i = 6)) → gI j8 y i = gI i1 y i := fun y i w1 w2 => by
    rw [q2 y i (by omega) w2, f2 y i (by omega), gI_z2 _ _ (by omega)]
  obtain ⟨k0, hk0⟩ : ∃ k0, k0 = pI (pI (pI (pI j8 2 0 (1 : Int32)) 3 0 (5 : Int32)) 4 0 (5 : Int32)) 5 0 (3 : Int32) := ⟨_, rfl⟩
  have q0 : ∀ y i, ¬ ((y = 2 ∨ y = 3 ∨ y = 4 ∨ y = 5) ∧ i = 0) → gI k0 y i = gI j8 y i := fun y i w => by rw [hk0, gI_p2 _ _ (by omega), gI_p2 _ _ (by omega), gI_p2 _ _ (by omega), gI_p2 _ _ (by omega)]
  obtain ⟨d0, d1, d2, d3, d4, d5⟩ := c1
  have hO : One k0 := by
    refine ⟨?_, ?_, ?_, ?_, ?_, ?_⟩
    · rw [q0 _ _ (by omega), q2 _ _ (by omega) (by omega)]; exact c2
    · rw [hk0, gI_p2 _ _ (by omega), gI_p2 _ _ (by omega), gI_p2 _ _ (by omega), gI_p1]
    · rw [q0 _ _ (by omega), q1 _ _ (by omega) (by omega)]; exact d1
    · rw [hk0, gI_p2 _ _ (by omega), gI_p2 _ _ (by omega), gI_p1]
    · rw [hk0, gI_p2 _ _ (by omega), gI_p1]
    · rw [hk0, gI_p1]
  have hf := s_first (ι := pI (pI k0 9 0 27) 10 0 27) (by rw [gI_p2 _ _ (by omega), gI_p2 _ _ (by omega)]; exact hO.2.2.1)
  obtain ⟨k1, hk1⟩ : ∃ k1, k1 = pI (pI (pI (pI k0 9 0 27) 10 0 27) 2 2 1) 7 0 0 := ⟨_, rfl⟩
  have q9 : ∀ y i, ¬ ((y = 7 ∨ y = 9 ∨ y = 10) ∧ i = 0) → ¬ (y = 2 ∧ i = 2) → gI k1 y i = gI k0 y i := fun y i w1 w2 => by rw [hk1, gI_p2 _ _ (by omega), gI_p2 _ _ (by omega), gI_p2 _ _ (by omega), gI_p2 _ _ (by omega)]
  rw [← hk1] at hf
  refine ⟨k1, ?_, ?_, ?_, ?_, fun k => ?_, ?_, ?_, ?_, ?_, ?_, fun t h1 h2 => ?_, fun i hi => ?_, fun i hi => ?_⟩
  · unfold mi_X6
    rw [a1, Option.bind_some, a2, Option.bind_some, a3, Option.bind_some, a4, Option.bind_some, a5, Option.bind_some, b1, Option.bind_some, b2, Option.bind_some, b3, Option.bind_some, b4, Option.bind_some, b5, Option.bind_some, b6, Option.bind_some, b7, Option.bind_some, b8, Option.bind_some, ← hk0, s_rate hO, Option.bind_some, hf, Option.bind_some]
  · rw [q9 _ _ (by omega) (by omega), q0 _ _ (by omega), q1 _ _ (by omega) (by omega), f1 _ _ (by omega), gI_z2 _ _ (by omega), gI_p1]
  · rw [q9 _ _ (by omega) (by omega), q0 _ _ (by omega), q3 _ _ (by omega), gI_z2 _ _ (by omega), gI_p2 _ _ (by omega), gI_p1]
  · rw [q9 _ _ (by omega) (by omega), q0 _ _ (by omega), q3 _ _ (by omega), gI_z2 _ _ (by omega), gI_p1]
  · rw [q9 _ _ (by omega) (by omega), q0 _ _ (by omega), q3 _ _ (by omega), gI_z1]
  · obtain ⟨h1, h2, h3, h4, h5, h6⟩ := hO
    refine ⟨?_, ?_, ?_, ?_, ?_, ?_⟩ <;> rw [q9 _ _ (by omega) (by omega)] <;> assumption
  · rw [hk1, gI_p2 _ _ (by omega), gI_p1]
  · rw [hk1, gI_p1]
  · rw [hk1, gI_p2 _ _ (by omega), gI_p2 _ _ (by omega), gI_p2 _ _ (by omega), gI_p1]
  · rw [hk1, gI_p2 _ _ (by omega), gI_p2 _ _ (by omega), gI_p1]
  · rw [q9 _ _ (by omega) (by omega), q9 _ _ (by omega) (by omega), q0 _ _ (by omega), q0 _ _ (by omega), q1 _ _ (by omega) (by omega), q1 _ _ (by omega) (by omega)]; exact d3 t h2
  · rw [q9 _ _ (by omega) (by omega), q0 _ _ (by omega), q1 _ _ (by omega) (by omega)]; exact d4 i hi
  · rw [q9 _ _ (by omega) (by omega), q0 _ _ (by omega), q1 _ _ (by omega) (by omega)]; exact d5 i hi
