theorem l32 {n : Nat} (h : n ≤ 1000000) : (lN n).toInt32 = nI n := Int32.toInt_inj.mp (by
  rw [Int64.toInt_toInt32, pk_lT (by omega), nI_toInt (by omega)]
  exact Int.bmod_eq_of_le (by omega) (by omega))
theorem d_rateOne {ι : iS} {r : Nat → Int32} {T P q : Nat} {F : List (Nat × Nat)} (hV : DV ι r T P) (hq : q < P) (g : Int32) (hok : ∀ q ∈ F, okQ T q) (hc : gI ι 21 2 = nI F.length) (hs : ∀ j, j < F.length → gI ι 22 j = enc6 (F.getD j (0, 0))) (hl : F.length ≤ 500) (hh : F ≠ [] → rHgt F 0 = some 1) : ∃ ι', m_X1_rateOne 12 (nI q) g ι = some (mt r T F q g, ι') ∧ J23 ι ι' := by
  unfold m_X1_rateOne
  by_cases hF : F = []
  · subst hF
    obtain ⟨s, e1, e2, e3⟩ := d_plain_loop hV hq g T 0 aF 0 (by omega) (by have := hV.1; unfold aF; omega) rfl (by omega)
    refine ⟨ι, ?_, J23.rf ι⟩
    rw [if_pos (show gI ι 21 2 = 0 from hc), show m_X1_plainRate 12 (nI q) g ι = some (nI s, ι) from e1, Option.bind_some]
    dsimp only
    rw [← l32 (show s ≤ 1000000 by omega), d_clip (lN_Bk (by omega)), Option.bind_some, ← e2]
    unfold mt
    rw [if_pos rfl]
  · have hl0 : 0 < F.length := List.length_pos_iff.mpr hF
    obtain ⟨ι', e1, e2⟩ := d_run (r := r) (T := T) hq g F 0 aF [] ι hV hok (fun i hi => by rw [Nat.zero_add]; exact hs i hi) (by rw [Nat.zero_add]; exact hc) (by omega) (hh hF) (Nat.zero_le _) trivial (by unfold aF; omega)
    refine ⟨ι', ?_, e2⟩
    rw [if_neg (show ¬ gI ι 21 2 = 0 by rw [hc]; exact nI_ne0 hl0 (by omega)), show m_X1_run 12 (nI q) g ι = some (rRun r q g F, ι') from e1, Option.bind_some]
    dsimp only
    rw [d_clip (run_Bk hV hq g hok), Option.bind_some]
    unfold mt
    rw [if_neg hF]
theorem d_rate_loop {r : Nat → Int32} {T P : Nat} {F : List (Nat × Nat)} (hok : ∀ q ∈ F, okQ T q) (hl : F.length ≤ 500) (hh : F ≠ [] → rHgt F 0 = some 1) : ∀ d q m ι, q + d = P → d < m → DV ι r T P → gI ι 12 1 = nI P → gI ι 21 2 = nI F.length → (∀ j, j < F.length → gI ι 22 j = enc6 (F.getD j (0, 0))) → ∃ ι', l_X1_rate_2 12 m (nI q) ι = some ι' ∧ (∀ i, q ≤ i → i < P → gI ι' 19 i = mt r T F i 0 ∧ gI ι' 20 i = mt r T F i 1) ∧ (∀ o i, ¬ ((o = 19 ∨ o = 20) ∧ q ≤ i) → gI ι' o i = gI ι o i) ∧ gP ι' = gP ι ∧ (∀ o k, o ≠ 23 → gJ ι' o k = gJ ι o k) := by
  intro d
  induction d with
  | zero =>
    intro q m ι hq hm hV h12 hc hs
    obtain ⟨m, rfl⟩ : ∃ y, m = y + 1 := ⟨m - 1, by omega⟩
    obtain rfl : q = P := by omega
    refine ⟨ι, ?_, fun i h1 h2 => by omega, fun _ _ _ => rfl, rfl, fun _ _ _ => rfl⟩
    rw [l_X1_rate_2, h12, if_pos (Int32.le_refl _)]
  | succ d ih =>
    intro q m ι hq hm hV h12 hc hs
    obtain ⟨m, rfl⟩ : ∃ y, m = y + 1 := ⟨m - 1, by omega⟩
    have hP := hV.2.1
    obtain ⟨ι1, a1, a2⟩ := d_rateOne hV (show q < P by omega) 0 hok hc hs hl hh
    have g1 : ∀ y i, ¬ (y = 19 ∧ i = q) → gI (pI ι1 19 q (mt r T F q 0)) y i = gI ι y i := fun y i z => by rw [gI_p2 _ _ z, a2.1]
    obtain ⟨ι2, b1, b2⟩ := d_rateOne (ι := pI ι1 19 q (mt r T F q 0)) (DV_cg hV (fun y i _ _ => g1 y i (by omega))) (show q < P by omega) 1 hok (by rw [g1 _ _ (by omega)]; exact hc) (fun j hj => by rw [g1 _ _ (by omega)]; exact hs j hj) hl hh
    have g2 : ∀ y i, ¬ (y = 19 ∧ i = q) → ¬ (y = 20 ∧ i = q) → gI (pI ι2 20 q (mt r T F q 1)) y i = gI ι y i := fun y i z w => by rw [gI_p2 _ _ w, b2.1, g1 y i z]
    obtain ⟨ι', e1, e2, e3, e4, e5⟩ := ih (q + 1) m (pI ι2 20 q (mt r T F q 1)) (by omega) (by omega) (DV_cg hV (fun y i _ _ => g2 y i (by omega) (by omega))) (by rw [g2 _ _ (by omega) (by omega)]; exact h12) (by rw [g2 _ _ (by omega) (by omega)]; exact hc) (fun j hj => by rw [g2 _ _ (by omega) (by omega)]; exact hs j hj)
    refine ⟨ι', ?_, fun i h1 h2 => ?_, fun y i z => by rw [e3 y i (by omega), g2 y i (by omega) (by omega)], by rw [e4, gP_pI, b2.2.1, gP_pI, a2.2.1], fun o k z => by rw [e5 o k z, gJ_pI, b2.2.2 o k z, gJ_pI, a2.2.2 o k z]⟩
    · rw [l_X1_rate_2, h12, if_neg (nI_ge (by omega) (by omega)), a1, Option.bind_some, if_pos (aIn_nI (by omega) (by omega)), nI_clamp (n := q) (by omega)]
      dsimp only
      rw [show m_X1_rateOne 12 (nI q) 1 (pI ι1 (12 + 7) q (mt r T F q 0)) = some (mt r T F q 1, ι2) from b1, Option.bind_some, if_pos (aIn_nI (by omega) (by omega)), nI_1]
      exact e1
    · by_cases z : i = q
      · subst z
        rw [e3 _ _ (by omega), e3 _ _ (by omega), gI_p1, gI_p2 _ _ (by omega), b2.1, gI_p1]
        exact ⟨rfl, rfl⟩
      · exact e2 i (by omega) h2
theorem d_first_loop {S : Nat} (hS : S ≤ 8) : ∀ d k m ι, k + d = S → d < m → gI ι 12 2 = nI S → ∃ ι', l_X2_showFirst_15 12 m (nI k) ι = some ι' ∧ (∀ i, k ≤ i → i < S → gI ι' 17 i = nI i) ∧ (∀ o i, ¬ (o = 17 ∧ k ≤ i) → gI ι' o i = gI ι o i) ∧ gP ι' = gP ι ∧ gJ ι' = gJ ι := by
  intro d
  induction d with
  | zero =>
    intro k m ι hk hm h
    obtain ⟨m, rfl⟩ : ∃ y, m = y + 1 := ⟨m - 1, by omega⟩
    obtain rfl : k = S := by omega
    refine ⟨ι, ?_, fun i h1 h2 => by omega, fun _ _ _ => rfl, rfl, rfl⟩
    rw [l_X2_showFirst_15, h, if_pos (Int32.le_refl _)]
  | succ d ih =>
    intro k m ι hk hm h
    obtain ⟨m, rfl⟩ : ∃ y, m = y + 1 := ⟨m - 1, by omega⟩
    obtain ⟨ι', e1, e2, e3, e4, e5⟩ := ih (k + 1) m (pI ι 17 k (nI k)) (by omega) (by omega) (by rw [gI_p2 _ _ (by omega)]; exact h)
    refine ⟨ι', ?_, fun i h1 h2 => ?_, fun o i z => by rw [e3 o i (by omega), gI_p2 _ _ (by omega)], e4, e5⟩
    · rw [l_X2_showFirst_15, h, if_neg (nI_ge (by omega) (by omega)), if_pos (aIn_nI (by omega) (by omega)), nI_clamp (by omega), nI_1]
      exact e1
    · by_cases z : i = k
      · subst z
        rw [e3 _ _ (by omega), gI_p1]
      · exact e2 i (by omega) h2
theorem d_first {ι : iS} {P : Nat} (hP : 1 ≤ P ∧ P ≤ 16) (h : gI ι 12 1 = nI P) : ∃ ι', m_X2_showFirst 12 ι = some ι' ∧ gI ι' 12 2 = nI (min 8 P) ∧ (∀ i, i < min 8 P → gI ι' 17 i = nI i) ∧ (∀ o i, o ≠ 17 → ¬ (o = 12 ∧ i = 2) → gI ι' o i = gI ι o i) ∧ gP ι' = gP ι ∧ gJ ι' = gJ ι := by
  have e0 : (if (8 : Int32) < gI ι 12 1 then (8 : Int32) else gI ι 12 1) = nI (min 8 P) := by
    rw [h]
    by_cases z : 8 < P
    · rw [if_pos (show (8 : Int32) < nI P from nI_lt (a := 8) z (by omega)), show min 8 P = 8 by omega]; rfl
    · rw [if_neg (show ¬ (8 : Int32) < nI P from nI_nlt (a := 8) (b := P) (by omega) (by omega)), show min 8 P = P by omega]
  obtain ⟨ι', e1, e2, e3, e4, e5⟩ := d_first_loop (S := min 8 P) (by omega) (min 8 P) 0 aF (pI ι 12 2 (nI (min 8 P))) (by omega) (by unfold aF; omega) (gI_p1 _ _ _ _)
  refine ⟨ι', ?_, by rw [e3 _ _ (by omega), gI_p1], fun i hi => e2 i (by omega) hi, fun o i z w => by rw [e3 o i (by omega), gI_p2 _ _ w], e4, e5⟩
  unfold m_X2_showFirst
  rw [e0]
  exact e1
/-- the lines' end on the class's side, nothing wanting -/
theorem d_end {b : Nat → Nat} {n C : Nat} {p e : Nat → Nat} {ι κ : iS} {k a T P o : Nat} {F : List (Nat × Nat)} (h : Ln b n C p e ι κ k a T P o F) (hb : bit 0 o = 1) : ∃ ι', dEnd ι = some (0, ι') ∧ (∀ i, i < P → gI ι' 19 i = mt (gI κ 113) T F i 0 ∧ gI ι' 20 i = mt (gI κ 113) T F i 1) ∧ gI ι' 12 2 = nI (min 8 P) ∧ (∀ i, i < min 8 P → gI ι' 17 i = nI i) ∧ gI ι' 11 2 = -1 ∧ (∀ y i, y ≠ 17 → y ≠ 19 → y ≠ 20 → ¬ (y = 12 ∧ i = 2) → ¬ (y = 11 ∧ i = 2) → gI ι' y i = gI ι y i) ∧ gP ι' = gP ι ∧ ∀ y i, y ≠ 23 → gJ ι' y i = gJ ι y i := by
  obtain ⟨hp, ⟨d1, d2, d3, d4, d5, d6, ⟨ho, o2, o3, o4, o5, o7⟩⟩, hF, hFm, hop⟩ := h
  have h4 := hp.2.2.1
  obtain ⟨ι0, hι0⟩ : ∃ ι0, ι0 = pI ι 11 2 (-1 : Int32) := ⟨_, rfl⟩
  have q0 : ∀ y i, ¬ (y = 11 ∧ i = 2) → gI ι0 y i = gI ι y i := fun y i q => by rw [hι0, gI_p2 _ _ q]
  have hV : DV ι0 (gI κ 113) T P := ⟨d1.1, d2.1, by rw [q0 _ _ (by omega)]; exact d1.2.1, fun q hq t ht => by rw [q0 _ _ (by omega)]; exact d4 q hq (fun _ => hb) t ht, fun t ht => by rw [q0 _ _ (by omega), q0 _ _ (by omega)]; exact d5 t ht⟩
  have hok : ∀ q ∈ F, okQ T q := by
    have hb5 := bit_lt 5 o
    rcases (show bit 5 o = 0 ∨ bit 5 o = 1 by omega) with z | z
    · rw [hFm.2.1 z]; intro q hq; cases hq
    · exact (hFm.2.2 z).2.1
  have hh : F ≠ [] → rHgt F 0 = some 1 := fun hne => by
    have hb5 := bit_lt 5 o
    rcases (show bit 5 o = 0 ∨ bit 5 o = 1 by omega) with z | z
    · exact absurd (hFm.2.1 z) hne
    · exact (hFm.2.2 z).2.2.1
  obtain ⟨ι1, e1, e2, e3, e4, e5⟩ := d_rate_loop (r := gI κ 113) (T := T) (P := P) hok hFm.1 hh P 0 aF ι0 (by omega) (by have := d2.1; unfold aF; omega) hV (by rw [q0 _ _ (by omega)]; exact d2.2.1) (by rw [q0 _ _ (by omega)]; exact hF.1) (fun j hj => by rw [q0 _ _ (by omega)]; exact hF.2.1 j hj)
  obtain ⟨ι2, f1, f2, f3, f4, f5, f6⟩ := d_first (ι := ι1) d2.1 (by rw [e3 _ _ (by omega), q0 _ _ (by omega)]; exact d2.2.1)
  refine ⟨ι2, ?_, fun i hi => ?_, f2, f3, by rw [f4 _ _ (by omega) (by omega), e3 _ _ (by omega), hι0, gI_p1], fun y i q1 q2 q3 q4 q5 => by rw [f4 y i q1 q4, e3 y i (by omega), q0 y i q5], (f5.trans e4).trans (by rw [hι0]; rfl), fun y i q => by rw [f6, e5 y i q, hι0]; rfl⟩
  · have h40 : gI ι0 11 4 = 0 := by rw [q0 _ _ (by omega)]; exact h4
    unfold dEnd
    rw [if_pos h4, o3, if_neg (show ¬ nI (sd o) &&& 16 = 0 from fl_g o ho 0 (by omega) hb)]
    unfold dTl
    rw [if_pos h4, ← hι0, if_pos h40, show m_X1_rate 12 ι0 = some ι1 from e1, Option.bind_some, f1, Option.bind_some, f4 _ _ (by omega) (by omega), e3 _ _ (by omega), h40]
  · rw [f4 _ _ (by omega) (by omega), f4 _ _ (by omega) (by omega)]
    exact e2 i (by omega) hi
