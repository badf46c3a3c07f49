theorem d_clr68 {o : Nat} : ∀ d k m ι, k + d = 16 → d < m → ∃ ι', l_X2_clear_68 o m (nI k) ι = some ι' ∧ (∀ i, k ≤ i → i < 16 → gI ι' (o + 6) i = 0) ∧ (∀ y i, ¬ (y = o + 6 ∧ k ≤ i) → gI ι' y i = gI ι y i) ∧ gJ ι' = gJ ι ∧ gP ι' = gP ι := by
  intro d
  induction d with
  | zero =>
    intro k m ι hk hm
    obtain ⟨m, rfl⟩ : ∃ y, m = y + 1 := ⟨m - 1, by omega⟩
    obtain rfl : k = 16 := by omega
    exact ⟨ι, by rw [l_X2_clear_68, if_pos (by decide)], fun i h1 h2 => by omega, fun _ _ _ => rfl, rfl, rfl⟩
  | succ d ih =>
    intro k m ι hk hm
    obtain ⟨m, rfl⟩ : ∃ y, m = y + 1 := ⟨m - 1, by omega⟩
    obtain ⟨ι', e1, e2, e3, e4, e5⟩ := ih (k + 1) m (pI ι (o + 6) k 0) (by omega) (by omega)
    refine ⟨ι', ?_, fun i h1 h2 => ?_, fun y i q => by rw [e3 y i (by omega), gI_p2 _ _ (by omega)], e4, e5⟩
    · rw [l_X2_clear_68, if_neg (show ¬ (16 : Int32) ≤ nI k from nI_ge (a := k) (b := 16) (by omega) (by omega)), if_pos (aIn_nI (by omega) (by omega)), nI_clamp (by omega), nI_1]
      exact e1
    · by_cases z : i = k
      · subst z; rw [e3 _ _ (by omega), gI_p1]
      · exact e2 i (by omega) h2
theorem d_clr44 {o : Nat} : ∀ d k m ι, k + d = 4 → d < m → ∃ ι', l_X2_clear_44 o m (nI k) ι = some ι' ∧ (∀ i, k ≤ i → i < 4 → gI ι' (o + 4) i = aSt 2 i) ∧ (∀ i, i < 16 → gI ι' (o + 6) i = 0) ∧ (∀ y i, ¬ (y = o + 4 ∧ k ≤ i) → y ≠ o + 6 → gI ι' y i = gI ι y i) ∧ gJ ι' = gJ ι ∧ gP ι' = gP ι := by
  intro d
  induction d with
  | zero =>
    intro k m ι hk hm
    obtain ⟨m, rfl⟩ : ∃ y, m = y + 1 := ⟨m - 1, by omega⟩
    obtain rfl : k = 4 := by omega
    obtain ⟨ι', e1, e2, e3, e4, e5⟩ := d_clr68 (o := o) 16 0 aF ι (by omega) (by unfold aF; omega)
    exact ⟨ι', by rw [l_X2_clear_44, if_pos (by decide)]; exact e1, fun i h1 h2 => by omega, fun i hi => e2 i (by omega) hi, fun y i q1 q2 => e3 y i (by omega), e4, e5⟩
  | succ d ih =>
    intro k m ι hk hm
    obtain ⟨m, rfl⟩ : ∃ y, m = y + 1 := ⟨m - 1, by omega⟩
    obtain ⟨ι', e1, e2, e2', e3, e4, e5⟩ := ih (k + 1) m (pI ι (o + 4) k (aSt 2 k)) (by omega) (by omega)
    refine ⟨ι', ?_, fun i h1 h2 => ?_, e2', fun y i q1 q2 => by rw [e3 y i (by omega) q2, gI_p2 _ _ (by omega)], e4, e5⟩
    · rw [l_X2_clear_44, if_neg (show ¬ (4 : Int32) ≤ nI k from nI_ge (a := k) (b := 4) (by omega) (by omega)), if_pos (aIn_nI (by omega) (by omega)), if_pos (aIn_nI (by omega) (by omega)), nI_clamp (by omega), nI_1]
      exact e1
    · by_cases z : i = k
      · subst z; rw [e3 _ _ (by omega) (by omega), gI_p1]
      · exact e2 i (by omega) h2
theorem d_clr17 {o : Nat} : ∀ d k m ι, k + d = 5 → d < m → ∃ ι', l_X2_clear_17 o m (nI k) ι = some ι' ∧ (∀ i, k ≤ i → i < 5 → gI ι' (o + 2) i = -1 ∧ gI ι' (o + 3) i = 0) ∧ (∀ i, i < 4 → gI ι' (o + 4) i = aSt 2 i) ∧ (∀ i, i < 16 → gI ι' (o + 6) i = 0) ∧ (∀ y i, ¬ ((y = o + 2 ∨ y = o + 3) ∧ k ≤ i) → y ≠ o + 4 → y ≠ o + 6 → gI ι' y i = gI ι y i) ∧ gJ ι' = gJ ι ∧ gP ι' = gP ι := by
  intro d
  induction d with
  | zero =>
    intro k m ι hk hm
    obtain ⟨m, rfl⟩ : ∃ y, m = y + 1 := ⟨m - 1, by omega⟩
    obtain rfl : k = 5 := by omega
    obtain ⟨ι', e1, e2, e2', e3, e4, e5⟩ := d_clr44 (o := o) 4 0 aF ι (by omega) (by unfold aF; omega)
    exact ⟨ι', by rw [l_X2_clear_17, if_pos (by decide)]; exact e1, fun i h1 h2 => by omega, fun i hi => e2 i (by omega) hi, e2', fun y i q1 q2 q3 => e3 y i (by omega) q3, e4, e5⟩
  | succ d ih =>
    intro k m ι hk hm
    obtain ⟨m, rfl⟩ : ∃ y, m = y + 1 := ⟨m - 1, by omega⟩
    obtain ⟨ι', e1, e2, e2', e2'', e3, e4, e5⟩ := ih (k + 1) m (pI (pI ι (o + 2) k (-1)) (o + 3) k 0) (by omega) (by omega)
    refine ⟨ι', ?_, fun i h1 h2 => ?_, e2', e2'', fun y i q1 q2 q3 => by rw [e3 y i (by omega) q2 q3, gI_p2 _ _ (by omega), gI_p2 _ _ (by omega)], e4, e5⟩
    · rw [l_X2_clear_17, if_neg (show ¬ (5 : Int32) ≤ nI k from nI_ge (a := k) (b := 5) (by omega) (by omega)), if_pos (aIn_nI (by omega) (by omega)), if_pos (aIn_nI (by omega) (by omega)), nI_clamp (by omega), nI_1]
      exact e1
    · by_cases z : i = k
      · subst z
        rw [e3 _ _ (by omega) (by omega) (by omega), e3 _ _ (by omega) (by omega) (by omega), gI_p2 _ _ (by omega), gI_p1, gI_p1]
        exact ⟨rfl, rfl⟩
      · exact e2 i (by omega) h2
/-- a lineup as it is at first -/
def Clr (ι : iS) (o : Nat) : Prop := gI ι o 0 = 0 ∧ gI ι o 1 = nI 1 ∧ gI ι o 2 = 0 ∧ (∀ i, i < 5 → gI ι (o + 2) i = -1 ∧ gI ι (o + 3) i = 0) ∧ (∀ i, i < 4 → gI ι (o + 4) i = aSt 2 i) ∧ ∀ i, i < 16 → gI ι (o + 6) i = 0
theorem d_clear {o : Nat} (ι : iS) : ∃ ι', m_X2_clear o ι = some ι' ∧ Clr ι' o ∧ (∀ y i, y ≠ o → y ≠ o + 2 → y ≠ o + 3 → y ≠ o + 4 → y ≠ o + 6 → gI ι' y i = gI ι y i) ∧ gJ ι' = gJ ι ∧ gP ι' = gP ι := by
  obtain ⟨ι', e1, e2, e3, e4, e5, e6, e7⟩ := d_clr17 (o := o) 5 0 aF (pI (pI (pI ι o 0 0) o 1 1) o 2 0) (by omega) (by unfold aF; omega)
  refine ⟨ι', e1, ⟨?_, ?_, ?_, fun i hi => e2 i (by omega) hi, e3, e4⟩, fun y i q1 q2 q3 q4 q5 => by rw [e5 y i (by omega) q4 q5, gI_p2 _ _ (by omega), gI_p2 _ _ (by omega), gI_p2 _ _ (by omega)], e6, e7⟩
  · rw [e5 _ _ (by omega) (by omega) (by omega), gI_p2 _ _ (by omega), gI_p2 _ _ (by omega), gI_p1]
  · rw [e5 _ _ (by omega) (by omega) (by omega), gI_p2 _ _ (by omega), gI_p1]; rfl
  · rw [e5 _ _ (by omega) (by omega) (by omega), gI_p1]
def row0 (i : Nat) : Int32 := if i = 4 then 2 else if i = 5 then 30 else if i = 6 then 5 else if i = 7 then 50 else if 89 ≤ i ∧ i < 94 then -1 else 0
theorem m_beg41 {x : Nat} : ∀ d k m κ, k + d = 5 → d < m → ∃ κ', l_X7_begins_41 x m (nI k) κ = some κ' ∧ (∀ i, 89 + k ≤ i → i < 94 → gI κ' x i = -1) ∧ (∀ y i, ¬ (y = x ∧ 89 + k ≤ i ∧ i < 94) → gI κ' y i = gI κ y i) ∧ gJ κ' = gJ κ ∧ gP κ' = gP κ := by
  intro d
  induction d with
  | zero =>
    intro k m κ hk hm
    obtain ⟨m, rfl⟩ : ∃ y, m = y + 1 := ⟨m - 1, by omega⟩
    obtain rfl : k = 5 := by omega
    exact ⟨κ, by rw [l_X7_begins_41, if_pos (by decide)], fun i h1 h2 => by omega, fun _ _ _ => rfl, rfl, rfl⟩
  | succ d ih =>
    intro k m κ hk hm
    obtain ⟨m, rfl⟩ : ∃ y, m = y + 1 := ⟨m - 1, by omega⟩
    obtain ⟨κ', e1, e2, e3, e4, e5⟩ := ih (k + 1) m (pI κ x (89 + k) (-1)) (by omega) (by omega)
    refine ⟨κ', ?_, fun i h1 h2 => ?_, fun y i q => by rw [e3 y i (by omega), gI_p2 _ _ (by omega)], e4, e5⟩
    · rw [l_X7_begins_41, if_neg (show ¬ (5 : Int32) ≤ nI k from nI_ge (a := k) (b := 5) (by omega) (by omega)), show (89 : Int32) + nI k = nI (89 + k) from nI_add 89 k, if_pos (aIn_nI (by omega) (by omega)), nI_clamp (by omega), nI_1]
      exact e1
    · by_cases z : i = 89 + k
      · subst z; rw [e3 _ _ (by omega), gI_p1]
      · exact e2 i (by omega) h2
theorem m_beg2 {x : Nat} : ∀ d k m κ, k + d = 883 → d < m → ∃ κ', l_X7_begins_2 x m (nI k) κ = some κ' ∧ (∀ i, k ≤ i ∨ i = 4 ∨ i = 5 ∨ i = 6 ∨ i = 7 ∨ (89 ≤ i ∧ i < 94) → i < 883 → gI κ' x i = row0 i) ∧ (∀ y i, y ≠ x → gI κ' y i = gI κ y i) ∧ (∀ i, i < k → ¬ (i = 4 ∨ i = 5 ∨ i = 6 ∨ i = 7 ∨ (89 ≤ i ∧ i < 94)) → gI κ' x i = gI κ x i) ∧ gJ κ' = gJ κ ∧ gP κ' = gP κ := by
  intro d
  induction d with
  | zero =>
    intro k m κ hk hm
    obtain ⟨m, rfl⟩ : ∃ y, m = y + 1 := ⟨m - 1, by omega⟩
    obtain rfl : k = 883 := by omega
    obtain ⟨κ', e1, e2, e3, e4, e5⟩ := m_beg41 (x := x) 5 0 aF (pI (pI (pI (pI κ x 4 2) x 5 30) x 6 5) x 7 50) (by omega) (by unfold aF; omega)
    refine ⟨κ', by rw [l_X7_begins_2, if_pos (by decide)]; exact e1, fun i h1 h2 => ?_, fun y i q => by rw [e3 y i (by omega), gI_p2 _ _ (by omega), gI_p2 _ _ (by omega), gI_p2 _ _ (by omega), gI_p2 _ _ (by omega)], fun i h1 h2 => by rw [e3 x i (by omega), gI_p2 _ _ (by omega), gI_p2 _ _ (by omega), gI_p2 _ _ (by omega), gI_p2 _ _ (by omega)], e4, e5⟩
    unfold row0
    rcases (show i = 4 ∨ i = 5 ∨ i = 6 ∨ i = 7 ∨ (89 ≤ i ∧ i < 94) by omega) with rfl | rfl | rfl | rfl | z
    · rw [e3 _ _ (by omega), gI_p2 _ _ (by omega), gI_p2 _ _ (by omega), gI_p2 _ _ (by omega), gI_p1]; rfl
    · rw [e3 _ _ (by omega), gI_p2 _ _ (by omega), gI_p2 _ _ (by omega), gI_p1]; rfl
    · rw [e3 _ _ (by omega), gI_p2 _ _ (by omega), gI_p1]; rfl
    · rw [e3 _ _ (by omega), gI_p1]; rfl
    · rw [e2 i (by omega) z.2, if_neg (by omega), if_neg (by omega), if_neg (by omega), if_neg (by omega), if_pos z]
  | succ d ih =>
    intro k m κ hk hm
    obtain ⟨m, rfl⟩ : ∃ y, m = y + 1 := ⟨m - 1, by omega⟩
    obtain ⟨κ', e1, e2, e3, e4, e5, e6⟩ := ih (k + 1) m (pI κ x k 0) (by omega) (by omega)
    refine ⟨κ', ?_, fun i h1 h2 => ?_, fun y i q => by rw [e3 y i q, gI_p2 _ _ (by omega)], fun i h1 h2 => by rw [e4 i (by omega) h2, gI_p2 _ _ (by omega)], e5, e6⟩
    · rw [l_X7_begins_2, if_neg (show ¬ (883 : Int32) ≤ nI k from nI_ge (a := k) (b := 883) (by omega) (by omega)), if_pos (aIn_nI (by omega) (by omega)), nI_clamp (by omega), nI_1]
      exact e1
    · by_cases z : i = k ∧ ¬ (i = 4 ∨ i = 5 ∨ i = 6 ∨ i = 7 ∨ (89 ≤ i ∧ i < 94))
      · rw [e4 i (by omega) z.2, z.1, gI_p1]
        unfold row0
        rw [if_neg (by omega), if_neg (by omega), if_neg (by omega), if_neg (by omega), if_neg (by omega)]
      · exact e2 i (by omega) h2
theorem m_begins {x : Nat} (κ : iS) : ∃ κ', m_X7_begins x κ = some κ' ∧ (∀ i, i < 883 → gI κ' x i = row0 i) ∧ (∀ y i, y ≠ x → gI κ' y i = gI κ y i) ∧ gJ κ' = gJ κ ∧ gP κ' = gP κ := by
  obtain ⟨κ', e1, e2, e3, -, e5, e6⟩ := m_beg2 (x := x) 883 0 aF κ (by omega) (by unfold aF; omega)
  exact ⟨κ', e1, fun i hi => e2 i (by omega) hi, e3, e5, e6⟩
