theorem blk_at (ι : iS) (o j k : Nat) (h : j ≤ 8) : blk ι o j k = gI ι (o + j) k := if_pos h
theorem ok_show {ι : iS} (h : Inv ι) (x : Int32) : Ok32 (w_show x ι) (m_X7_show x) := by
  obtain ⟨⟨T, P, S, F, h0, hcod, hmt⟩, -⟩ := id h
  obtain ⟨⟨hT, hP, hS⟩, ⟨⟨b0, r0⟩, ⟨b1, r1⟩, ⟨b2, r2⟩⟩, hset, hval, htold, hord, hinj, hmock⟩ := id h0
  have b1 : gI ι 2 1 = nI P := b1
  have b2 : gI ι 2 2 = nI S := b2
  rcases (show (x < 0 ∨ nI P ≤ x) ∨ ∃ j : Nat, j < P ∧ x = nI j from or_assoc.mpr (pk_ix x (n := P) (by omega))) with hx | ⟨p, hp, rfl⟩
  · refine ok_refuse h (e := 0) (c := 1) (v := 0) (by omega) i10 ?_ ?_
    · unfold w_show m_X6_show
      rw [d_np_x b1 hx]
      rfl
    · unfold m_X7_show
      rw [m_isPerson_x (P := P) (h := hx) (hP := hP), Option.bind_some]
      · dsimp only
        rw [if_pos rfl, show m_X7_bad 1 1 0 = m_X7_bad 1 1 (nI 0) from rfl, m_bad_1 (e := 0) (hc := i10) (he := by omega)]
        · rfl
        · rfl
      · exact r1
  have pl := fun κ r2' hrow => plc_both (ι := ι) (κ := κ) (S := S) (P := P) (nI p) hS b2 r2' hrow (fun k hk => (hord k hk).1)
  by_cases hbad : plc (fun k => gI ι 112 (99 + k)) (nI p) S 0 = -1 ∧ S < 8
  · obtain ⟨hpl, hS8⟩ := hbad
    obtain ⟨κ, k1, k2, k3, k4⟩ := act h
    have s7 : gI κ 2 2 = nI S := (k2 2 2 (by omega) (by omega)).trans b2
    obtain ⟨ι1, hι1⟩ : ∃ ι1, ι1 = pI (pJ (pI (pI κ 7 S (nI p)) 2 2 (nI (S + 1))) 125 0 (nI (S + 1)).toInt64) 109 0 0 := ⟨_, rfl⟩
    obtain ⟨μ, m1, m2, m3, m4, m5⟩ := k4 ι1 (fun o k q1 q2 => by
      rw [hι1, gI_p2 _ _ q2, gI_pJ, gI_p2 _ _ (by omega), gI_p2 _ _ (by omega)]) (by rw [hι1]; rfl)
    have r112 : ∀ k, gI ι1 112 k = gI ι 112 k := fun k => by
      rw [hι1, gI_p2 _ _ (by omega), gI_pJ, gI_p2 _ _ (by omega), gI_p2 _ _ (by omega), k3 _ _ (by omega)]
    have hm3 : gI μ 112 3 = nI S := by rw [m2 _ _ (by omega) (by omega), r112]; exact r2
    obtain ⟨ι2, hι2⟩ : ∃ ι2, ι2 = pI (pI μ 112 (99 + S) (nI p)) 112 3 (nI (S + 1)) := ⟨_, rfl⟩
    refine ⟨0, pJ (pI (pI κ 7 S (nI p)) 2 2 (nI (S + 1))) 125 0 (nI (S + 1)).toInt64, nI (S + 1), ι2, ?_, ?_, ?_, fun _ => ?_, m5 ι2 (fun o k q => ?_) ?_ ?_⟩
    · unfold w_show m_X6_show
      rw [d_np_j b1 hp (by omega), Option.bind_some]
      dsimp only
      rw [(pl ι r2 (fun _ _ => rfl)).1, Option.bind_some]
      dsimp only
      rw [if_pos hpl, b2, if_neg (show ¬ (8 : Int32) ≤ nI S from nI_ge (a := S) (b := 8) (by omega) (by omega)), d_ns_1, Option.bind_some]
      dsimp only
      rw [k1, Option.bind_some]
      unfold m_X2_showLast
      rw [s7, if_neg (show ¬ (8 : Int32) ≤ nI S from nI_ge (a := S) (b := 8) (by omega) (by omega)), if_pos (aIn_nI (by omega) (by omega)), nI_clamp (by omega), gI_p2 _ _ (by omega), s7, nI_1]
      simp only [Option.bind_some, gI_p1]
    · unfold m_X7_show
      rw [← hι1, m_isPerson_j (P := P) (h := hp) (hP := hP.2), Option.bind_some]
      · dsimp only
        rw [if_neg i10, m_bad_0, Option.bind_some]
        · dsimp only
          rw [if_pos rfl, (pl ι1 ((r112 3).trans r2) (fun k _ => r112 _)).2, Option.bind_some]
          dsimp only
          rw [if_pos hpl, (r112 3).trans r2, if_neg (show ¬ nI S = 8 from fun q => by have := (nI_eq (a := S) (b := 8) (by omega) (by omega)).mp q; omega), m_bad_0, Option.bind_some]
          · dsimp only
            rw [if_pos rfl, m1, Option.bind_some, hm3, show (99 : Int32) + nI S = nI (99 + S) from nI_add 99 S, if_pos (aIn_nI (by omega) (by omega)), nI_clamp (by omega), gI_p1, gI_p2 _ _ (by omega), hm3, nI_1, hι2]
          · rw [hι1]; rfl
        · rw [hι1]; rfl
      · exact (r112 1).trans r1
    · rw [hι2, gI_p2 _ _ (by omega), gI_p2 _ _ (by omega), m2 _ _ (by omega) (by omega), hι1, gI_p1]
    · rw [hι2]
      show gJ μ 125 0 = _
      rw [m3, hι1]
      rfl
    · rw [hι2, gI_p2 _ _ (by omega), gI_p2 _ _ (by omega)]
    · rw [hι2]; rfl
    · have hB : ∀ j k, j ≤ 8 → blk ι2 2 j k = gI (pI (pI κ 7 S (nI p)) 2 2 (nI (S + 1))) (2 + j) k := fun j k hj => by
        rw [blk_at _ _ _ _ hj, hι2, gI_p2 _ _ (by omega), gI_p2 _ _ (by omega), m2 _ _ (by omega) (by omega), hι1, gI_p2 _ _ (by omega), gI_pJ]
      have hB2 : ∀ j k, j ≤ 8 → ¬ (j = 0 ∧ k = 2) → ¬ (j = 5 ∧ k = S) → blk ι2 2 j k = blk ι 2 j k := fun j k hj q1 q2 => by
        rw [hB j k hj, gI_p2 _ _ (by omega), gI_p2 _ _ (by omega), k2 _ _ (by omega) (by omega), blk_at _ _ _ _ hj]
      have hr : ∀ k, k ≠ 3 → k ≠ 99 + S → gI ι2 112 k = gI ι 112 k := fun k q1 q2 => by
        rw [hι2, gI_p2 _ _ (by omega), gI_p2 _ _ (by omega), m2 _ _ (by omega) (by omega), r112]
      have hrS : gI ι2 112 (99 + S) = nI p := by rw [hι2, gI_p2 _ _ (by omega), gI_p1]
      have hno : ∀ i, i < S → gI ι 112 (99 + i) ≠ nI p := by
        rcases plc_cs (f := fun k => gI ι 112 (99 + k)) (p := nI p) S 0 with ⟨-, q⟩ | ⟨i, -, q2, q3, -⟩
        · exact fun i hi => q i (by omega) (by omega)
        · exact absurd (q3.symm.trans hpl) (nI_nm1 (by omega))
      refine LR_act (S' := S + 1) h0 hcod hmt ⟨hB2 0 0 (by omega) (by omega) (by omega), hB2 0 1 (by omega) (by omega) (by omega)⟩ (fun j k hj => hB2 j k (by omega) (by omega) (by omega)) (fun k hk => hr k (by omega) (by omega)) (by omega) ⟨by rw [hB 0 2 (by omega), gI_p1], by rw [hι2, gI_p1]⟩ (fun i hi => ?_) (fun k hk => ?_) (fun k l hk hl e => ?_) (fun p hp => ?_)
      · rw [hB2 4 i (by omega) (by omega) (by omega), hr _ (by omega) (by omega)]; exact hset i hi
      · by_cases hkS : k = S
        · subst hkS
          rw [hB 5 k (by omega), gI_p2 _ _ (by omega), gI_p1, hrS]
          exact ⟨rfl, p, rfl, hp⟩
        · rw [hB2 5 k (by omega) (by omega) (by omega), hr _ (by omega) (by omega)]; exact hord k (by omega)
      · by_cases hkS : k = S
        · by_cases hlS : l = S
          · omega
          · rw [hkS, hrS, hr _ (by omega) (by omega)] at e
            exact absurd e.symm (hno l (by omega))
        · by_cases hlS : l = S
          · rw [hlS, hrS, hr _ (by omega) (by omega)] at e
            exact absurd e (hno k (by omega))
          · rw [hr _ (by omega) (by omega), hr _ (by omega) (by omega)] at e
            exact hinj k l (by omega) (by omega) e
      · rw [hB2 6 p (by omega) (by omega) (by omega), hr _ (by omega) (by omega)]; exact hmock p hp
  · refine ok_refuse h (e := 2) (c := 2) (v := 0) (by omega) (by decide) ?_ ?_
    · unfold w_show m_X6_show
      rw [d_np_j b1 hp (by omega), Option.bind_some]
      dsimp only
      rw [(pl ι r2 (fun _ _ => rfl)).1, Option.bind_some]
      dsimp only
      by_cases hpl : plc (fun k => gI ι 112 (99 + k)) (nI p) S 0 = -1
      · have hS8 : S = 8 := by
          rcases Nat.lt_or_ge S 8 with q | q
          · exact absurd ⟨hpl, q⟩ hbad
          · omega
        rw [if_pos hpl, b2, if_pos (show (8 : Int32) ≤ nI S from nI_le (a := 8) (b := S) (by omega) (by omega)), d_ns_0]
        rfl
      · rw [if_neg hpl, d_ns_0]
        rfl
    · unfold m_X7_show
      rw [m_isPerson_j (P := P) (h := hp) (hP := hP.2), Option.bind_some]
      · dsimp only
        rw [if_neg i10, m_bad_0, Option.bind_some]
        · dsimp only
          rw [if_pos rfl, (pl (pI (pI ι 30 2 (gI ι 30 2 + 1)) 109 0 0) r2 (fun k _ => rfl)).2, Option.bind_some]
          dsimp only
          by_cases hpl : plc (fun k => gI ι 112 (99 + k)) (nI p) S 0 = -1
          · have hS8 : S = 8 := by
              rcases Nat.lt_or_ge S 8 with q | q
              · exact absurd ⟨hpl, q⟩ hbad
              · omega
            rw [if_pos hpl, if_pos (show gI (pI (pI ι 30 2 (gI ι 30 2 + 1)) 109 0 0) 112 3 = 8 from Eq.trans r2 (by rw [hS8]; rfl)), show m_X7_bad 1 2 2 = m_X7_bad 1 2 (nI 2) from rfl, m_bad_1 (e := 2) (hc := by decide) (he := by omega)]
            · rfl
            · rfl
          · rw [if_neg hpl, show m_X7_bad 1 2 2 = m_X7_bad 1 2 (nI 2) from rfl, m_bad_1 (e := 2) (hc := by decide) (he := by omega)]
            · rfl
            · rfl
        · rfl
      · exact r1
