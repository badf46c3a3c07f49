/-! what is kept ahead of an act -/
def PD (ι : iS) (a : Nat) (R : Nat → Nat → Int32) : Prop := pastR ι ∧ a ≤ 8 ∧ gI ι 0 5 = nI a ∧ ∀ k, k < a → ∀ o, gP ι 29 k = some o → LR (blk ι o) (R k)
def pushR (a : Nat) (R : Nat → Nat → Int32) (r0 : Nat → Int32) : Nat → Nat → Int32 := fun k => if a < 8 then (if k = a then r0 else R k) else if k = 7 then r0 else R (k + 1)
theorem lin_of {i : Nat} (h : i < 8) : aLin (37 + 9 * i) = true := by
  rcases (show i = 0 ∨ i = 1 ∨ i = 2 ∨ i = 3 ∨ i = 4 ∨ i = 5 ∨ i = 6 ∨ i = 7 by omega) with rfl | rfl | rfl | rfl | rfl | rfl | rfl | rfl
  · exact lin37
  · exact lin46
  · exact lin55
  · exact lin64
  · exact lin73
  · exact lin82
  · exact lin91
  · exact lin100
theorem blk_eq {ι ι' : iS} {o : Nat} (h : ∀ j k, j ≤ 8 → gI ι' (o + j) k = gI ι (o + j) k) : blk ι' o = blk ι o := by
  funext j k
  unfold blk
  by_cases hj : j ≤ 8
  · rw [if_pos hj, if_pos hj, h j k hj]
  · rw [if_neg hj, if_neg hj]
theorem bd_le {j k : Nat} (h : k < bd j) : j ≤ 8 := by
  rcases Nat.lt_or_ge 8 j with hj | hj
  · exact absurd h (by
      unfold bd
      rw [List.getD_eq_getElem?_getD, List.getElem?_eq_none (show 9 ≤ j from hj)]
      exact Nat.not_lt_zero _)
  · exact hj
theorem d_tail {κ : iS} {a : Nat} {R : Nat → Nat → Int32} {r0 : Nat → Int32} (ha : a < 8) (h : PD κ a R) (h0 : LR (blk κ 2) r0) : ∃ ι', (if aIn (gI κ 0 5) 8 = true then (gP κ 29 (gI κ 0 5).toNatClampNeg).bind fun q70 => if aLin q70 = true then Option.bind (m_X2_copyFrom q70 2 κ) fun r75 => some (pI r75 0 5 ((gI r75 0 5) + (1 : Int32))) else none else none) = some ι' ∧ PD ι' (a + 1) (fun k => if k = a then r0 else R k) ∧ (∀ o k, (o < 37 ∨ 108 < o) → ¬ (o = 0 ∧ k = 5) → gI ι' o k = gI κ o k) ∧ gJ ι' = gJ κ ∧ gP ι' = gP κ := by
  obtain ⟨hp, -, hac, hk⟩ := h
  obtain ⟨i, hi, ho⟩ := hp.1 a ha
  obtain ⟨b, e, g1, g2, g3, g4⟩ := d_copy (ι := κ) (o := 37 + 9 * i) (x := 2) (by omega)
  refine ⟨pI b 0 5 (gI b 0 5 + 1), ?_, ⟨pastR_sm (fun k => by rw [gP_pI, g4]) hp, by omega, ?_, fun k hk2 o hko => ?_⟩, fun o k h1 h2 => ?_, ?_, ?_⟩
  · rw [hac, if_pos (aIn_nI ha (by omega)), nI_clamp (by omega), ho, Option.bind_some]
    rw [if_pos (lin_of hi), e]
    rfl
  · rw [gI_p1, g2 0 5 (by omega), hac]
    exact nI_1 a
  · rw [gP_pI, g4] at hko
    by_cases hka : k = a
    · subst hka
      rw [ho] at hko
      obtain rfl : 37 + 9 * i = o := Option.some.inj hko
      show LR _ (if k = k then r0 else R k)
      rw [if_pos rfl]
      refine LR_cg (fun j z hz => ?_) (fun _ _ => rfl) h0
      have hj := bd_le hz
      unfold blk
      rw [if_pos hj, if_pos hj, gI_p2 _ _ (by omega)]
      exact g1 j z hz
    · show LR _ (if k = a then r0 else R k)
      rw [if_neg hka]
      obtain ⟨i2, hi2, e2⟩ := pastR_le hp (by omega) hko
      have hne : i2 ≠ i := fun q => by
        subst q
        rw [e2] at hko
        exact hka (hp.2 k a (by omega) ha (hko.trans ho.symm))
      rw [blk_eq (ι := κ) (fun j z hj => by rw [gI_p2 _ _ (by omega), g2 _ _ (by omega)])]
      exact hk k (by omega) o hko
  · rw [gI_p2 _ _ h2, g2 _ _ (by omega)]
  · rw [gJ_pI, g3]
  · rw [gP_pI, g4]
theorem d_keep_loop {y1 : Nat} : ∀ d k n ι, k + d = 8 → 1 ≤ k → d < n → (∀ i, i < 8 → ∃ m, m < 8 ∧ gP ι 29 i = some (37 + 9 * m)) → ∃ ι', l_X6_keepPast_18 n y1 (nI k) ι = l_X6_keepPast_18 1 y1 8 ι' ∧ gI ι' = gI ι ∧ gJ ι' = gJ ι ∧ (∀ i, gP ι' 29 i = if k ≤ i + 1 ∧ i < 7 then gP ι 29 (i + 1) else gP ι 29 i) ∧ ∀ o i, o ≠ 29 → gP ι' o i = gP ι o i := by
  intro d
  induction d with
  | zero =>
    intro k n ι hk h1 hn hg
    obtain ⟨n, rfl⟩ : ∃ m, n = m + 1 := ⟨n - 1, by omega⟩
    obtain rfl : k = 8 := by omega
    refine ⟨ι, ?_, rfl, rfl, fun i => by rw [if_neg (by omega)], fun _ _ _ => rfl⟩
    rw [l_X6_keepPast_18, l_X6_keepPast_18, if_pos (show (8 : Int32) ≤ nI 8 by decide), if_pos (show (8 : Int32) ≤ 8 by decide)]
  | succ d ih =>
    intro k n ι hk h1 hn hg
    obtain ⟨n, rfl⟩ : ∃ m, n = m + 1 := ⟨n - 1, by omega⟩
    obtain ⟨m, hm, e⟩ := hg k (by omega)
    obtain ⟨ι', e1, e2, e3, e4, e5⟩ := ih (k + 1) n (pP ι 29 (k - 1) (some (37 + 9 * m))) (by omega) (by omega) (by omega) (fun i hi => by
      rw [gP_pP]
      by_cases hik : i = k - 1
      · rw [if_pos ⟨rfl, hik⟩]; exact ⟨m, hm, rfl⟩
      · rw [if_neg (fun q => hik q.2)]; exact hg i hi)
    refine ⟨ι', ?_, e2, e3, fun i => ?_, fun o i ho => ?_⟩
    · rw [l_X6_keepPast_18, if_neg (show ¬ (8 : Int32) ≤ nI k from nI_ge (a := k) (b := 8) (by omega) (by omega)), if_pos (aIn_nI (by omega) (by omega)), nI_clamp (by omega), e, Option.bind_some]
      rw [if_pos (lin_of hm), show nI k - 1 = nI (k - 1) from pk_sub (a := k) (b := 1) h1, if_pos (aIn_nI (by omega) (by omega)), nI_clamp (by omega), nI_1]
      exact e1
    · rw [e4 i]
      simp only [gP_pP]
      by_cases hik : i = k - 1
      · subst hik
        rw [if_neg (by omega), if_pos ⟨trivial, rfl⟩, if_pos (by omega), show k - 1 + 1 = k by omega, e]
      · by_cases hc : k ≤ i + 1 ∧ i < 7
        · rw [if_pos (by omega), if_neg (by omega), if_pos hc]
        · rw [if_neg (by omega), if_neg (by omega), if_neg hc]
    · rw [e5 o i ho, gP_pP, if_neg (fun q => ho q.1)]
theorem d_keep {ι : iS} {a : Nat} {R : Nat → Nat → Int32} {r0 : Nat → Int32} (h : PD ι a R) (h0 : LR (blk ι 2) r0) : ∃ ι', m_X6_keepPast ι = some ι' ∧ PD ι' (if a < 8 then a + 1 else 8) (pushR a R r0) ∧ (∀ o k, (o < 37 ∨ 108 < o) → ¬ (o = 0 ∧ k = 5) → gI ι' o k = gI ι o k) ∧ gJ ι' = gJ ι ∧ ∀ o k, o ≠ 29 → gP ι' o k = gP ι o k := by
  obtain ⟨hp, ha, hac, hk⟩ := id h
  by_cases ha8 : a < 8
  · obtain ⟨ι', e1, e2, e3, e4, e5⟩ := d_tail ha8 h h0
    refine ⟨ι', ?_, ?_, e3, e4, fun o k _ => by rw [e5]⟩
    · unfold m_X6_keepPast
      rw [if_neg (show ¬ gI ι 0 5 = 8 from fun q => by rw [hac] at q; have := (nI_eq (a := a) (b := 8) (by omega) (by omega)).mp q; omega)]
      exact e1
    · rw [if_pos ha8, show pushR a R r0 = fun k => if k = a then r0 else R k from funext fun k => if_pos ha8]
      exact e2
  · obtain rfl : a = 8 := by omega
    obtain ⟨i0, hi0, eo⟩ := hp.1 0 (by omega)
    obtain ⟨b, f1, f2, f3, f4, f5⟩ := d_keep_loop (y1 := 37 + 9 * i0) 7 1 aF ι (by omega) (by omega) (by unfold aF; omega) hp.1
    have fp : ∀ k, gP (pP b 29 7 (some (37 + 9 * i0))) 29 k = if k = 7 then gP ι 29 0 else if k < 7 then gP ι 29 (k + 1) else gP ι 29 k := fun k => by
      rw [gP_pP]
      by_cases hk7 : k = 7
      · rw [if_pos ⟨rfl, hk7⟩, if_pos hk7, eo]
      · rw [if_neg (fun q => hk7 q.2), if_neg hk7, f4 k]
        by_cases hk : k < 7
        · rw [if_pos (by omega), if_pos hk]
        · rw [if_neg (by omega), if_neg hk]
    obtain ⟨κ, hκ⟩ : ∃ κ, κ = pI (pP b 29 7 (some (37 + 9 * i0))) 0 5 ((gI (pP b 29 7 (some (37 + 9 * i0))) 0 5) - (1 : Int32)) := ⟨_, rfl⟩
    have k1 : ∀ o k, ¬ (o = 0 ∧ k = 5) → gI κ o k = gI ι o k := fun o k q => by rw [hκ, gI_p2 _ _ q, gI_pP, f2]
    have k2 : gI κ 0 5 = nI 7 := by
      rw [hκ, gI_p1, gI_pP, f2, hac]
      exact pk_sub (a := 8) (b := 1) (by omega)
    have k3 : ∀ k, gP κ 29 k = if k = 7 then gP ι 29 0 else if k < 7 then gP ι 29 (k + 1) else gP ι 29 k := fun k => by rw [hκ]; exact fp k
    have k4 : ∀ o k, o ≠ 29 → gP κ o k = gP ι o k := fun o k q => by
      rw [hκ, gP_pI, gP_pP, if_neg (fun z => q z.1)]
      exact f5 o k q
    have k5 : gJ κ = gJ ι := by rw [hκ]; exact f3
    have kb : ∀ o, 1 ≤ o → blk κ o = blk ι o := fun o ho => blk_eq (fun j z hj => k1 _ _ (by omega))
    have kp : pastR κ := by
      refine ⟨fun k hk => ?_, fun k l hk hl e => ?_⟩
      · rw [k3]
        by_cases hk7 : k = 7
        · rw [if_pos hk7]; exact hp.1 0 (by omega)
        · rw [if_neg hk7, if_pos (by omega)]; exact hp.1 (k + 1) (by omega)
      · rw [k3, k3] at e
        by_cases hk7 : k = 7
        · by_cases hl7 : l = 7
          · omega
          · rw [if_pos hk7, if_neg hl7, if_pos (by omega)] at e
            have := hp.2 _ _ (by omega) (by omega) e
            omega
        · by_cases hl7 : l = 7
          · rw [if_neg hk7, if_pos (by omega), if_pos hl7] at e
            have := hp.2 _ _ (by omega) (by omega) e
            omega
          · rw [if_neg hk7, if_pos (by omega), if_neg hl7, if_pos (by omega)] at e
            have := hp.2 _ _ (by omega) (by omega) e
            omega
    have kPD : PD κ 7 (fun k => R (k + 1)) := by
      refine ⟨kp, by omega, k2, fun k hk2 o hko => ?_⟩
      rw [k3, if_neg (by omega), if_pos hk2] at hko
      obtain ⟨i, hi, e⟩ := pastR_le hp (by omega) hko
      rw [kb o (by omega)]
      exact hk (k + 1) (by omega) o hko
    obtain ⟨ι', e1, e2, e3, e4, e5⟩ := d_tail (κ := κ) (by omega) kPD (by rw [kb 2 (by omega)]; exact h0)
    refine ⟨ι', ?_, ?_, fun o k q1 q2 => (e3 o k q1 q2).trans (k1 o k q2), e4.trans k5, fun o k q => by rw [e5, k4 o k q]⟩
    · unfold m_X6_keepPast
      rw [if_pos (show gI ι 0 5 = 8 from hac), if_pos (by decide), show ((0 : Int32).toNatClampNeg) = 0 by decide, eo, Option.bind_some]
      rw [if_pos (lin_of hi0)]
      refine f1.trans ?_
      rw [l_X6_keepPast_18, if_pos (show (8 : Int32) ≤ 8 by decide), ← hκ]
      exact e1
    · rw [if_neg ha8, show pushR 8 R r0 = fun k => if k = 7 then r0 else R (k + 1) from funext fun k => if_neg (by omega)]
      exact e2
theorem m_rem_loop : ∀ d k n ι, k + d = 8 → 1 ≤ k → d < n → ∃ ι', l_X7_remembers_11 n (nI k) ι = l_X7_remembers_11 1 8 ι' ∧ (∀ j i, j < 8 → i < 883 → gI ι' (115 + j) i = if k ≤ j + 1 ∧ j < 7 then gI ι (115 + j + 1) i else gI ι (115 + j) i) ∧ (∀ o i, (o < 115 ∨ 122 < o) → gI ι' o i = gI ι o i) ∧ gJ ι' = gJ ι ∧ gP ι' = gP ι := by
  intro d
  induction d with
  | zero =>
    intro k n ι hk h1 hn
    obtain ⟨n, rfl⟩ : ∃ m, n = m + 1 := ⟨n - 1, by omega⟩
    obtain rfl : k = 8 := by omega
    refine ⟨ι, ?_, fun j i hj hi => by rw [if_neg (by omega)], fun _ _ _ => rfl, rfl, rfl⟩
    rw [l_X7_remembers_11, l_X7_remembers_11, if_pos (show (8 : Int32) ≤ nI 8 by decide), if_pos (show (8 : Int32) ≤ 8 by decide)]
  | succ d ih =>
    intro k n ι hk h1 hn
    obtain ⟨n, rfl⟩ : ∃ m, n = m + 1 := ⟨n - 1, by omega⟩
    obtain ⟨b, c1, c2, c3, c4, c5⟩ := m_copy (x1 := 115 + k) (x2 := 115 + (k - 1)) (by omega) ι
    obtain ⟨ι', e1, e2, e3, e4, e5⟩ := ih (k + 1) n b (by omega) (by omega) (by omega)
    refine ⟨ι', ?_, fun j i hj hi => ?_, fun o i ho => (e3 o i ho).trans (c3 o i (by omega)), e4.trans c4, e5.trans c5⟩
    · rw [l_X7_remembers_11, if_neg (show ¬ (8 : Int32) ≤ nI k from nI_ge (a := k) (b := 8) (by omega) (by omega)), if_pos (aIn_nI (by omega) (by omega)), show nI k - 1 = nI (k - 1) from pk_sub (a := k) (b := 1) h1, if_pos (aIn_nI (by omega) (by omega)), nI_clamp (by omega), nI_clamp (by omega), c1, Option.bind_some, nI_1]
      exact e1
    · rw [e2 j i hj hi]
      by_cases hjk : j = k - 1
      · subst hjk
        rw [if_neg (by omega), if_pos (by omega), c2 i hi, show 115 + (k - 1) + 1 = 115 + k by omega]
      · by_cases hc : k ≤ j + 1 ∧ j < 7
        · rw [if_pos (by omega), if_pos hc, c3 _ _ (by omega)]
        · rw [if_neg (by omega), if_neg hc, c3 _ _ (by omega)]
theorem m_rem {ι : iS} {a : Nat} (ha : a ≤ 8) (hb : gI ι 109 12 = nI a) : ∃ ι', m_X7_remembers ι = some ι' ∧ gI ι' 109 12 = nI (if a < 8 then a + 1 else 8) ∧ (∀ k, k < (if a < 8 then a + 1 else 8) → ∀ i, i < 883 → gI ι' (115 + k) i = pushR a (fun k => gI ι (115 + k)) (gI ι 112) k i) ∧ (∀ o k, (o < 115 ∨ 122 < o) → ¬ (o = 109 ∧ k = 12) → gI ι' o k = gI ι o k) ∧ gJ ι' = gJ ι ∧ gP ι' = gP ι := by
  by_cases ha8 : a < 8
  · obtain ⟨b, c1, c2, c3, c4, c5⟩ := m_copy (x1 := 112) (x2 := 115 + a) (by omega) ι
    refine ⟨pI b 109 12 (gI b 109 12 + 1), ?_, ?_, fun k hk i hi => ?_, fun o k h1 h2 => ?_, by rw [gJ_pI, c4], by rw [gP_pI, c5]⟩
    · unfold m_X7_remembers
      rw [if_neg (show ¬ gI ι 109 12 = 8 from fun q => by rw [hb] at q; have := (nI_eq (a := a) (b := 8) (by omega) (by omega)).mp q; omega), hb, if_pos (aIn_nI (by omega) (by omega)), nI_clamp (by omega), c1]
      rfl
    · rw [gI_p1, c3 _ _ (by omega), hb, if_pos ha8]
      exact nI_1 a
    · rw [if_pos ha8] at hk
      unfold pushR
      rw [gI_p2 _ _ (by omega), if_pos ha8]
      by_cases hka : k = a
      · subst hka
        rw [if_pos rfl, c2 i hi]
      · rw [if_neg hka, c3 _ _ (by omega)]
    · rw [gI_p2 _ _ h2, c3 _ _ (by omega)]
  · obtain rfl : a = 8 := by omega
    obtain ⟨b, f1, f2, f3, f4, f5⟩ := m_rem_loop 7 1 aF ι (by omega) (by omega) (by unfold aF; omega)
    obtain ⟨c, c1, c2, c3, c4, c5⟩ := m_copy (x1 := 112) (x2 := 115 + 7) (by omega) (pI b 109 12 (gI b 109 12 - 1))
    have hb7 : gI (pI b 109 12 (gI b 109 12 - 1)) 109 12 = nI 7 := by
      rw [gI_p1, f3 _ _ (by omega), hb]
      exact pk_sub (a := 8) (b := 1) (by omega)
    refine ⟨pI c 109 12 (gI c 109 12 + 1), ?_, ?_, fun k hk i hi => ?_, fun o k h1 h2 => ?_, by rw [gJ_pI, c4, gJ_pI, f4], by rw [gP_pI, c5, gP_pI, f5]⟩
    · unfold m_X7_remembers
      rw [if_pos (show gI ι 109 12 = 8 from hb)]
      refine f1.trans ?_
      rw [l_X7_remembers_11, if_pos (show (8 : Int32) ≤ 8 by decide), hb7, if_pos (by decide), show (nI 7).toNatClampNeg = 7 by decide, c1]
      rfl
    · rw [gI_p1, c3 _ _ (by omega), hb7]
      rfl
    · rw [if_neg ha8] at hk
      unfold pushR
      rw [gI_p2 _ _ (by omega), if_neg ha8]
      by_cases hk7 : k = 7
      · subst hk7
        rw [if_pos rfl, c2 i hi, gI_p2 _ _ (by omega), f3 _ _ (by omega)]
      · rw [if_neg hk7, c3 _ _ (by omega), gI_p2 _ _ (by omega), f2 k i (by omega) hi, if_pos (by omega)]
        rfl
    · rw [gI_p2 _ _ h2, c3 _ _ (by omega), gI_p2 _ _ h2, f3 _ _ h1]
