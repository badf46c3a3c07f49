theorem act32 {ι : iS} (h : Inv ι) {v : Int32} {W : Option (Int32 × iS)} {X : iS → Option (Int32 × iS)} {BP : (Nat → Nat → Int32) → Prop} {RP : (Nat → Int32) → Prop}
    (hW : ∀ κ, m_X6_keepPast ι = some κ → (∀ o k, 1 ≤ o → o ≤ 36 → gI κ o k = gI ι o k) → ∃ δ, W = some (0, pJ δ 125 0 v.toInt64) ∧ (∀ o k, ¬ (2 ≤ o ∧ o ≤ 10) → gI δ o k = gI κ o k) ∧ gP δ = gP κ ∧ BP (blk δ 2))
    (hX : ∀ ι0 ι1 μ, ι1 = pI ι0 109 0 0 → (∀ k, gI ι1 112 k = gI ι 112 k) → gI ι1 109 0 = 0 → m_X7_remembers ι1 = some μ → (∀ k, gI μ 112 k = gI ι 112 k) → ∃ ι2, X ι0 = some (v, ι2) ∧ (∀ o k, o ≠ 112 → gI ι2 o k = gI μ o k) ∧ gP ι2 = gP μ ∧ gJ ι2 = gJ μ ∧ RP (gI ι2 112))
    (hL : ∀ B r, BP B → RP r → LR B r) : Ok32 W X := by
  obtain ⟨κ, k1, k2, k3, k4⟩ := act h
  obtain ⟨δ, w1, w2, w3, w4⟩ := hW κ k1 k2
  obtain ⟨μ, m1, m2, m3, m4, m5⟩ := k4 (pI (pJ δ 125 0 v.toInt64) 109 0 0) (fun o k q1 q2 => by rw [gI_p2 _ _ q2, gI_pJ, w2 o k q1]) w3
  have r112 : ∀ k, gI (pI (pJ δ 125 0 v.toInt64) 109 0 0) 112 k = gI ι 112 k := fun k => by rw [gI_p2 _ _ (by omega), gI_pJ, w2 _ _ (by omega), k3 _ _ (by omega)]
  obtain ⟨ι2, x1, x2, x3, x4, x5⟩ := hX (pJ δ 125 0 v.toInt64) _ μ rfl r112 (gI_p1 _ _ _ _) m1 (fun k => by rw [m2 _ _ (by omega) (by omega), r112])
  refine ⟨0, pJ δ 125 0 v.toInt64, v, ι2, w1, x1, ?_, fun _ => ?_, m5 ι2 x2 x3 (hL _ _ ?_ x5)⟩
  · rw [x2 _ _ (by omega), m2 _ _ (by omega) (by omega), gI_p1]
  · rw [x4, m3]
    rfl
  · rw [blk_eq (ι := δ) (fun j z hj => by rw [x2 _ _ (by omega), m2 _ _ (by omega) (by omega), gI_p2 _ _ (by omega), gI_pJ])]
    exact w4
theorem ok_mock {ι : iS} (h : Inv ι) (x : Int32) : Ok32 (w_mock x ι) (m_X7_mock x) := by
  obtain ⟨⟨T, P, S, F, h0, hcod, hmt⟩, -⟩ := id h
  obtain ⟨⟨hT, hP, hS⟩, ⟨⟨b0, r0⟩, ⟨b1, r1⟩, ⟨b2, r2⟩⟩, hset, hval, htold, hord, hinj, hmock⟩ := id h0
  have b1 : gI ι 2 1 = nI P := b1
  have b2 : gI ι 2 2 = nI S := b2
  rcases (show (x < 0 ∨ nI P ≤ x) ∨ ∃ j : Nat, j < P ∧ x = nI j from or_assoc.mpr (pk_ix x (n := P) (by omega))) with hx | ⟨p, hp, rfl⟩
  · refine ok_refuse h (e := 0) (c := 1) (v := 0) (by omega) i10 ?_ ?_
    · unfold w_mock m_X6_mock
      rw [d_np_x b1 hx]
      rfl
    · unfold m_X7_mock
      rw [m_isPerson_x (P := P) (h := hx) (hP := hP), Option.bind_some]
      · dsimp only
        rw [if_pos rfl, show m_X7_bad 1 1 0 = m_X7_bad 1 1 (nI 0) from rfl, m_bad_1 (e := 0) (hc := i10) (he := by omega)]
        · rfl
        · rfl
      · exact r1
  have pl := fun κ r2' hrow => plc_both (ι := ι) (κ := κ) (S := S) (P := P) (nI p) hS b2 r2' hrow (fun k hk => (hord k hk).1)
  obtain ⟨c, hc, hc9, -⟩ := (hmock p (by omega)).2
  have hm8 : gI ι 8 p = nI c := ((hmock p (by omega)).1 : gI ι 8 p = gI ι 112 (107 + p)).trans hc
  by_cases hbad : ¬ plc (fun k => gI ι 112 (99 + k)) (nI p) S 0 = -1 ∧ c < 999
  · obtain ⟨hpl, hc8⟩ := hbad
    refine act32 h (v := nI (c + 1)) (BP := fun B => ∃ κ : iS, (∀ o k, 1 ≤ o → o ≤ 36 → gI κ o k = gI ι o k) ∧ B = blk (pI κ 8 p (nI (c + 1))) 2) (RP := fun r => ∃ μ : iS, (∀ k, gI μ 112 k = gI ι 112 k) ∧ r = gI (pI μ 112 (107 + p) (nI (c + 1))) 112) (fun κ k1 k2 => ?_) (fun ι0 ι1 μ hι1 r112 hz m1 m2 => ?_) (fun B r hB hr => ?_)
    · have s8 : gI κ 8 p = nI c := (k2 8 p (by omega) (by omega)).trans hm8
      refine ⟨pI κ 8 p (nI (c + 1)), ?_, fun o k q => by rw [gI_p2 _ _ (by omega)], rfl, κ, k2, rfl⟩
      unfold w_mock m_X6_mock
      rw [d_np_j b1 hp (by omega), Option.bind_some]
      dsimp only
      rw [(pl ι r2 (fun _ _ => rfl)).1, Option.bind_some]
      dsimp only
      simp only [if_neg hpl, nI_clamp (show p < 2 ^ 31 by omega), hm8, if_pos (aIn_nI (show p < 16 by omega) (by omega)), if_neg (show ¬ (999 : Int32) ≤ nI c from nI_ge (a := c) (b := 999) (by omega) (by omega)), d_ns_1, Option.bind_some, k1, s8, nI_1, gI_p1]
    · refine ⟨pI μ 112 (107 + p) (nI (c + 1)), ?_, fun o k q => by rw [gI_p2 _ _ (by omega)], rfl, rfl, μ, m2, rfl⟩
      unfold m_X7_mock
      rw [← hι1, m_isPerson_j (P := P) (h := hp) (hP := hP.2) (hr := (r112 1).trans r1), Option.bind_some]
      dsimp only
      rw [if_neg i10, m_bad_0 hz, Option.bind_some]
      dsimp only
      rw [if_pos rfl, (pl ι1 ((r112 3).trans r2) (fun k _ => r112 _)).2, Option.bind_some]
      dsimp only
      simp only [if_neg hpl, show (107 : Int32) + nI p = nI (107 + p) from nI_add 107 p, nI_clamp (show 107 + p < 2 ^ 31 by omega), if_pos (aIn_nI (show 107 + p < 883 by omega) (by omega)), (r112 (107 + p)).trans hc, if_neg (show ¬ nI c = 999 from fun q => by have := (nI_eq (a := c) (b := 999) (by omega) (by omega)).mp q; omega), m_bad_0 hz, Option.bind_some, if_true, m1, (m2 (107 + p)).trans hc, nI_1, gI_p1]
    · obtain ⟨κ, k2, rfl⟩ := hB
      obtain ⟨μ, m2, rfl⟩ := hr
      have hB2 : ∀ j k, j ≤ 8 → ¬ (j = 6 ∧ k = p) → blk (pI κ 8 p (nI (c + 1))) 2 j k = blk ι 2 j k := fun j k hj q => by
        rw [blk_at _ _ _ _ hj, blk_at _ _ _ _ hj, gI_p2 _ _ (by omega), k2 _ _ (by omega) (by omega)]
      have hr2 : ∀ k, k ≠ 107 + p → gI (pI μ 112 (107 + p) (nI (c + 1))) 112 k = gI ι 112 k := fun k q => by rw [gI_p2 _ _ (by omega), m2]
      refine LR_act (S' := S) h0 hcod hmt ⟨hB2 0 0 (by omega) (by omega), hB2 0 1 (by omega) (by omega)⟩ (fun j k hj => hB2 j k (by omega) (by omega)) (fun k hk => hr2 k (by omega)) hS ⟨(hB2 0 2 (by omega) (by omega)).trans b2, (hr2 3 (by omega)).trans r2⟩ (fun i hi => ?_) (fun k hk => ?_) (fun k l hk hl e => ?_) (fun p' hp' => ?_)
      · rw [hB2 4 i (by omega) (by omega), hr2 _ (by omega)]; exact hset i hi
      · rw [hB2 5 k (by omega) (by omega), hr2 _ (by omega)]; exact hord k hk
      · rw [hr2 _ (by omega), hr2 _ (by omega)] at e; exact hinj k l hk hl e
      · by_cases hpp : p' = p
        · subst hpp
          rw [blk_at _ _ _ _ (by omega), gI_p1]
          exact ⟨(gI_p1 _ _ _ _).symm, c + 1, gI_p1 _ _ _ _, by omega, fun q => by omega⟩
        · rw [hB2 6 p' (by omega) (by omega), hr2 _ (by omega)]; exact hmock p' hp'
  · refine ok_refuse h (e := 2) (c := 2) (v := 0) (by omega) (by decide) ?_ ?_
    · unfold w_mock m_X6_mock
      rw [d_np_j b1 hp (by omega), Option.bind_some]
      dsimp only
      rw [(pl ι r2 (fun _ _ => rfl)).1, Option.bind_some]
      dsimp only
      by_cases hpl : plc (fun k => gI ι 112 (99 + k)) (nI p) S 0 = -1
      · rw [if_pos hpl, d_ns_0]
        rfl
      · have hc8 : c = 999 := by
          rcases Nat.lt_or_ge c 999 with q | q
          · exact absurd ⟨hpl, q⟩ hbad
          · omega
        rw [if_neg hpl, if_pos (aIn_nI (show p < 16 by omega) (by omega)), nI_clamp (by omega), hm8, if_pos (show (999 : Int32) ≤ nI c by rw [hc8]; decide), d_ns_0]
        rfl
    · unfold m_X7_mock
      rw [m_isPerson_j (P := P) (h := hp) (hP := hP.2), Option.bind_some]
      · dsimp only
        rw [if_neg i10, m_bad_0, Option.bind_some]
        · dsimp only
          rw [if_pos rfl, (pl (pI (pI ι 30 2 (gI ι 30 2 + 1)) 109 0 0) r2 (fun k _ => rfl)).2, Option.bind_some]
          dsimp only
          by_cases hpl : plc (fun k => gI ι 112 (99 + k)) (nI p) S 0 = -1
          · rw [if_pos hpl, show m_X7_bad 1 2 2 = m_X7_bad 1 2 (nI 2) from rfl, m_bad_1 (e := 2) (hc := by decide) (he := by omega)]
            · rfl
            · rfl
          · have hc8 : c = 999 := by
              rcases Nat.lt_or_ge c 999 with q | q
              · exact absurd ⟨hpl, q⟩ hbad
              · omega
            rw [if_neg hpl, show (107 : Int32) + nI p = nI (107 + p) from nI_add 107 p, if_pos (aIn_nI (show 107 + p < 883 by omega) (by omega)), nI_clamp (by omega), if_pos (show gI (pI (pI ι 30 2 (gI ι 30 2 + 1)) 109 0 0) 112 (107 + p) = 999 from Eq.trans hc (by rw [hc8]; rfl)), show m_X7_bad 1 2 2 = m_X7_bad 1 2 (nI 2) from rfl, m_bad_1 (e := 2) (hc := by decide) (he := by omega)]
            · rfl
            · rfl
        · rfl
      · exact r1
