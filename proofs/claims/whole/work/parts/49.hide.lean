theorem d_hide_loop {S : Nat} {y : Int32} (hS : S ≤ 8) : ∀ d k n κ, k + d = S → 1 ≤ k → d < n → gI κ 2 2 = nI S → ∃ δ, l_X2_hideAt_4 2 n y (nI k) κ = some δ ∧ (∀ i, gI δ 7 i = if k ≤ i + 1 ∧ i + 1 < S then gI κ 7 (i + 1) else gI κ 7 i) ∧ gI δ 2 2 = nI (S - 1) ∧ (∀ o i, o ≠ 7 → ¬ (o = 2 ∧ i = 2) → gI δ o i = gI κ o i) ∧ gP δ = gP κ := by
  intro d
  induction d with
  | zero =>
    intro k n κ hk h1 hn h2
    obtain ⟨n, rfl⟩ : ∃ m, n = m + 1 := ⟨n - 1, by omega⟩
    obtain rfl : k = S := by omega
    refine ⟨pI κ 2 2 (nI (k - 1)), ?_, fun i => by rw [if_neg (by omega), gI_p2 _ _ (by omega)], gI_p1 _ _ _ _, fun o i q1 q2 => gI_p2 _ _ q2, rfl⟩
    rw [l_X2_hideAt_4, h2, if_pos (Int32.le_refl _), show nI k - 1 = nI (k - 1) from pk_sub (a := k) (b := 1) h1]
  | succ d ih =>
    intro k n κ hk h1 hn h2
    obtain ⟨n, rfl⟩ : ∃ m, n = m + 1 := ⟨n - 1, by omega⟩
    obtain ⟨δ, e1, e2, e3, e4, e5⟩ := ih (k + 1) n (pI κ 7 (k - 1) (gI κ 7 k)) (by omega) (by omega) (by omega) ((gI_p2 _ _ (by omega)).trans h2)
    refine ⟨δ, ?_, fun i => ?_, e3, fun o i q1 q2 => by rw [e4 o i q1 q2, gI_p2 _ _ (by omega)], e5⟩
    · rw [l_X2_hideAt_4, h2, if_neg (nI_ge (by omega) (by omega)), if_pos (aIn_nI (by omega) (by omega)), show nI k - 1 = nI (k - 1) from pk_sub (a := k) (b := 1) h1, if_pos (aIn_nI (by omega) (by omega)), nI_clamp (by omega), nI_clamp (by omega), nI_1]
      exact e1
    · rw [e2 i]
      by_cases hik : i = k - 1
      · subst hik
        rw [if_neg (by omega), gI_p1, if_pos (by omega), show k - 1 + 1 = k by omega]
      · by_cases hc : k ≤ i + 1 ∧ i + 1 < S
        · rw [if_pos (by omega), gI_p2 _ _ (by omega), if_pos hc]
        · rw [if_neg (by omega), gI_p2 _ _ (by omega), if_neg hc]
theorem m_hide_loop {S : Nat} {y : Int32} (hS : S ≤ 7) : ∀ d k n κ, k + d = S → d < n → gI κ 112 3 = nI S → ∃ δ, l_X7_hide_45 n y (nI k) κ = some (nI S, δ) ∧ (∀ i, gI δ 112 (99 + i) = if k ≤ i ∧ i < S then gI κ 112 (99 + i + 1) else gI κ 112 (99 + i)) ∧ (∀ o i, ¬ (o = 112 ∧ 99 ≤ i) → gI δ o i = gI κ o i) ∧ gP δ = gP κ ∧ gJ δ = gJ κ := by
  intro d
  induction d with
  | zero =>
    intro k n κ hk hn h2
    obtain ⟨n, rfl⟩ : ∃ m, n = m + 1 := ⟨n - 1, by omega⟩
    obtain rfl : k = S := by omega
    refine ⟨κ, ?_, fun i => by rw [if_neg (by omega)], fun o i q => rfl, rfl, rfl⟩
    rw [l_X7_hide_45, h2, if_pos (Int32.le_refl _)]
  | succ d ih =>
    intro k n κ hk hn h2
    obtain ⟨n, rfl⟩ : ∃ m, n = m + 1 := ⟨n - 1, by omega⟩
    obtain ⟨δ, e1, e2, e3, e4, e5⟩ := ih (k + 1) n (pI κ 112 (99 + k) (gI κ 112 (99 + k + 1))) (by omega) (by omega) ((gI_p2 _ _ (by omega)).trans h2)
    refine ⟨δ, ?_, fun i => ?_, fun o i q => by rw [e3 o i q, gI_p2 _ _ (by omega)], e4, e5⟩
    · rw [l_X7_hide_45, h2, if_neg (nI_ge (by omega) (by omega)), show (99 : Int32) + nI k = nI (99 + k) from nI_add 99 k, nI_1, if_pos (aIn_nI (by omega) (by omega)), if_pos (aIn_nI (by omega) (by omega)), nI_clamp (by omega), nI_clamp (by omega), nI_1]
      exact e1
    · rw [e2 i]
      by_cases hik : i = k
      · subst hik
        rw [if_neg (by omega), gI_p1, if_pos (by omega)]
      · by_cases hc : k ≤ i ∧ i < S
        · rw [if_pos (by omega), gI_p2 _ _ (by omega), if_pos hc]
        · rw [if_neg (by omega), gI_p2 _ _ (by omega), if_neg hc]
theorem ok_hide {ι : iS} (h : Inv ι) (x : Int32) : Ok32 (w_hide x ι) (m_X7_hide x) := by
  obtain ⟨⟨T, P, S, F, h0, hcod, hmt⟩, -⟩ := id h
  obtain ⟨⟨hT, hP, hS⟩, ⟨⟨b0, r0⟩, ⟨b1, r1⟩, ⟨b2, r2⟩⟩, hset, hval, htold, hord, hinj, hmock⟩ := id h0
  have b2 : gI ι 2 2 = nI S := b2
  rcases (show (x < 0 ∨ nI S ≤ x) ∨ ∃ j : Nat, j < S ∧ x = nI j from or_assoc.mpr (pk_ix x (n := S) (by omega))) with hx | ⟨p, hp, rfl⟩
  · refine ok_refuse h (e := 0) (c := 1) (v := 0) (by omega) i10 ?_ ?_
    · unfold w_hide m_X6_hide
      rw [d_nl_x b2 hx]
      rfl
    · unfold m_X7_hide
      rw [m_isPlace_x (S := S) (h := hx) (hS := hS), Option.bind_some]
      · dsimp only
        rw [if_pos rfl, show m_X7_bad 1 1 0 = m_X7_bad 1 1 (nI 0) from rfl, m_bad_1 (e := 0) (hc := i10) (he := by omega)]
        · rfl
        · rfl
      · exact r2
  refine act32 h (v := nI (S - 1)) (BP := fun B => (∀ i, B 5 i = if p + 1 ≤ i + 1 ∧ i + 1 < S then gI ι 7 (i + 1) else gI ι 7 i) ∧ B 0 2 = nI (S - 1) ∧ ∀ j k, j ≤ 8 → j ≠ 5 → ¬ (j = 0 ∧ k = 2) → B j k = blk ι 2 j k) (RP := fun r => (∀ i, r (99 + i) = if p ≤ i ∧ i < S - 1 then gI ι 112 (99 + i + 1) else gI ι 112 (99 + i)) ∧ r 3 = nI (S - 1) ∧ ∀ k, k < 99 → k ≠ 3 → r k = gI ι 112 k) (fun κ k1 k2 => ?_) (fun ι0 ι1 μ hι1 r112 hz m1 m2 => ?_) (fun B r hB hr => ?_)
  · obtain ⟨δ, e1, e2, e3, e4, e5⟩ := d_hide_loop (y := nI p) hS (S - (p + 1)) (p + 1) aF κ (by omega) (by omega) (by unfold aF; omega) ((k2 2 2 (by omega) (by omega)).trans b2)
    refine ⟨δ, ?_, fun o k q => e4 o k (by omega) (by omega), e5, fun i => ?_, e3, fun j k hj q1 q2 => ?_⟩
    · unfold w_hide m_X6_hide
      rw [d_nl_j b2 hp (by omega), Option.bind_some]
      dsimp only
      rw [k1, Option.bind_some, show m_X2_hideAt 2 (nI p) κ = some δ by unfold m_X2_hideAt; rw [nI_1]; exact e1, Option.bind_some, Option.bind_some]
      dsimp only
      rw [e3]
    · rw [blk_at _ _ _ _ (by omega), e2 i, k2 _ _ (by omega) (by omega), k2 _ _ (by omega) (by omega)]
    · rw [blk_at _ _ _ _ hj, blk_at _ _ _ _ hj, e4 _ _ (by omega) (by omega), k2 _ _ (by omega) (by omega)]
  · obtain ⟨δ, e1, e2, e3, e4, e5⟩ := m_hide_loop (S := S - 1) (y := nI p) (by omega) (S - 1 - p) p aF (pI μ 112 3 (nI (S - 1))) (by omega) (by unfold aF; omega) (gI_p1 _ _ _ _)
    refine ⟨δ, ?_, fun o k q => by rw [e3 o k (by omega), gI_p2 _ _ (by omega)], e4, e5, fun i => ?_, ?_, fun k h1 h2 => ?_⟩
    · unfold m_X7_hide
      rw [← hι1, m_isPlace_j (S := S) (h := hp) (hS := hS) (hr := (r112 3).trans r2), Option.bind_some]
      dsimp only
      rw [if_neg i10, m_bad_0 hz, Option.bind_some]
      dsimp only
      rw [if_pos rfl, m1, Option.bind_some, (m2 3).trans r2, show nI S - 1 = nI (S - 1) from pk_sub (a := S) (b := 1) (by omega)]
      exact e1
    · rw [e2 i, gI_p2 _ _ (by omega), gI_p2 _ _ (by omega), m2, m2]
    · rw [e3 _ _ (by omega), gI_p1]
    · rw [e3 _ _ (by omega), gI_p2 _ _ (by omega), m2]
  · obtain ⟨B1, B2, B3⟩ := hB
    obtain ⟨R1, R2, R3⟩ := hr
    have hbig : ∀ k, 107 ≤ k → r k = gI ι 112 k := fun k hk => by
      have := R1 (k - 99)
      rw [if_neg (by omega), show 99 + (k - 99) = k by omega] at this
      exact this
    have hσ : ∀ k, k < S - 1 → ∃ i, i < S ∧ r (99 + k) = gI ι 112 (99 + i) ∧ B 5 k = gI ι 7 i ∧ i = if p ≤ k then k + 1 else k := fun k hk => by
      by_cases hpk : p ≤ k
      · refine ⟨k + 1, by omega, ?_, ?_, by rw [if_pos hpk]⟩
        · rw [R1 k, if_pos ⟨hpk, hk⟩]
          rfl
        · rw [B1 k, if_pos (by omega)]
      · refine ⟨k, by omega, ?_, ?_, by rw [if_neg hpk]⟩
        · rw [R1 k, if_neg (by omega)]
        · rw [B1 k, if_neg (by omega)]
    refine LR_act (S' := S - 1) h0 hcod hmt ⟨B3 0 0 (by omega) (by omega) (by omega), B3 0 1 (by omega) (by omega) (by omega)⟩ (fun j k hj => B3 j k (by omega) (by omega) (by omega)) (fun k hk => ?_) (by omega) ⟨B2, R2⟩ (fun i hi => ?_) (fun k hk => ?_) (fun k l hk hl e => ?_) (fun p' hp' => ?_)
    · rcases Nat.lt_or_ge k 99 with q | q
      · exact R3 k q (by omega)
      · exact hbig k (by omega)
    · rw [B3 4 i (by omega) (by omega) (by omega), R3 _ (by omega) (by omega)]; exact hset i hi
    · obtain ⟨i, hi, q1, q2, -⟩ := hσ k hk
      rw [q1, q2]
      exact hord i hi
    · obtain ⟨i, hi, q1, -, q3⟩ := hσ k hk
      obtain ⟨i', hi', q1', -, q3'⟩ := hσ l hl
      rw [q1, q1'] at e
      have := hinj i i' hi hi' e
      rw [q3, q3'] at this
      by_cases hpk : p ≤ k <;> by_cases hpl : p ≤ l <;> simp only [if_pos, if_neg, hpk, hpl, if_true, if_false] at this <;> omega
    · rw [B3 6 p' (by omega) (by omega) (by omega), hbig _ (by omega)]; exact hmock p' hp'
theorem ok_undo {ι : iS} (h : Inv ι) : OkP (m_X6_undo ι) m_X7_undo := by
  obtain ⟨hL, ⟨n, hn, t1, t2, t3⟩, ⟨hp, a, ha, ac1, ac2, hk⟩, hf, hrf⟩ := id h
  by_cases ha0 : a = 0
  · refine ⟨-1, ι, pI ι 109 0 0, ?_, ?_, Inv_sm ((Sm.rf ι).pI scr_t) h⟩
    · unfold m_X6_undo
      rw [if_pos (by rw [ac1, ha0]; rfl)]
    · unfold m_X7_undo
      rw [gI_p2 _ _ (by omega), if_pos (by rw [ac2, ha0]; rfl)]
  · obtain ⟨i, hi, ho⟩ := hp.1 (a - 1) (by omega)
    obtain ⟨b, e, g1, g2, g3, g4⟩ := d_copy (ι := pI ι 0 5 (nI (a - 1))) (o := 2) (x := 37 + 9 * i) (by omega)
    have gb : ∀ o k, 11 ≤ o → gI b o k = gI ι o k := fun o k q => by rw [g2 _ _ (by omega), gI_p2 _ _ (by omega)]
    obtain ⟨c, c1, c2, c3, c4, c5⟩ := m_copy (x1 := 115 + (a - 1)) (x2 := 112) (by omega) (pI (pI b 109 0 0) 109 12 (nI (a - 1)))
    have hd : nI a - 1 = nI (a - 1) := pk_sub (a := a) (b := 1) (by omega)
    refine ⟨nI (a - 1), b, c, ?_, ?_, ?_⟩
    · unfold m_X6_undo
      rw [ac1, if_neg (nI_ne0 (by omega) (by omega)), hd, gI_p1, if_pos (aIn_nI (by omega) (by omega)), nI_clamp (by omega), gP_pI, ho, Option.bind_some, if_pos (lin_of hi), e, Option.bind_some, g2 _ _ (by omega), gI_p1]
    · unfold m_X7_undo
      rw [gI_p2 _ _ (by omega), gb _ _ (by omega), ac2, if_neg (nI_ne0 (by omega) (by omega)), hd, gI_p1, if_pos (aIn_nI (by omega) (by omega)), nI_clamp (by omega), c1, Option.bind_some, c3 _ _ (by omega), gI_p1]
    · have gc : ∀ o k, o ≠ 112 → ¬ (o = 109 ∧ k = 0) → ¬ (o = 109 ∧ k = 12) → gI c o k = gI b o k := fun o k q1 q2 q3 => by rw [c3 _ _ q1, gI_p2 _ _ q3, gI_p2 _ _ q2]
      have gP' : ∀ o k, gP c o k = gP ι o k := fun o k => by rw [c5, gP_pI, gP_pI, g4, gP_pI]
      have gd : ∀ o k, o < 2 → ¬ (o = 0 ∧ k = 5) → gI c o k = gI ι o k := fun o k q1 q2 => by rw [gc _ _ (by omega) (by omega) (by omega), g2 _ _ (by omega), gI_p2 _ _ q2]
      have ge : ∀ o k, 11 ≤ o → o ≠ 112 → ¬ (o = 109 ∧ k = 0) → ¬ (o = 109 ∧ k = 12) → gI c o k = gI ι o k := fun o k q1 q2 q3 q4 => by rw [gc _ _ q2 q3 q4, gb _ _ q1]
      refine ⟨?_, ⟨n, hn, (gd _ _ (by omega) (by omega)).trans t1, (ge _ _ (by omega) (by omega) (by omega) (by omega)).trans t2, fun k hk => ?_⟩, ⟨pastR_sm (gP' 29) hp, a - 1, by omega, ?_, ?_, fun k hk2 o hko => ?_⟩, ?_, fun k hk => ?_⟩
      · refine LR_cg (B := blk ι (37 + 9 * i)) (r := gI ι (115 + (a - 1))) (fun j k hk => ?_) (fun k hk => ?_) (hk (a - 1) (by omega) _ ho)
        · have hj := bd_le hk
          rw [blk_at _ _ _ _ hj, blk_at _ _ _ _ hj, gc _ _ (by omega) (by omega) (by omega), g1 j k hk, gI_p2 _ _ (by omega)]
        · rw [c2 k hk, gI_p2 _ _ (by omega), gI_p2 _ _ (by omega), gb _ _ (by omega)]
      · rw [gd _ _ (by omega) (by omega), ge _ _ (by omega) (by omega) (by omega) (by omega)]; exact t3 k hk
      · rw [gc _ _ (by omega) (by omega) (by omega), g2 _ _ (by omega), gI_p1]
      · rw [c3 _ _ (by omega), gI_p1]
      · rw [gP'] at hko
        obtain ⟨i2, hi2, e2⟩ := pastR_le hp (by omega) hko
        rw [blk_eq (ι := ι) (fun j z hj => ge _ _ (by omega) (by omega) (by omega) (by omega)), show gI c (115 + k) = gI ι (115 + k) from funext fun z => ge _ _ (by omega) (by omega) (by omega) (by omega)]
        exact hk k (by omega) o hko
      · rw [gd _ _ (by omega) (by omega), ge _ _ (by omega) (by omega) (by omega) (by omega)]; exact hf
      · rw [ge _ _ (by omega) (by omega) (by omega) (by omega), ge _ _ (by omega) (by omega) (by omega) (by omega)]; exact hrf k hk
