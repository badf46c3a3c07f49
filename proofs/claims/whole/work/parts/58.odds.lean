theorem WR_cg {ι ι' : iS} {o S z c : Nat} {m : Nat → Nat} (h : WR ι o S z c m) (h1 : ∀ i, gI ι' o i = gI ι o i) (h2 : ∀ i, gI ι' (o + 1) i = gI ι (o + 1) i) : WR ι' o S z c m :=
  ⟨(h1 _).trans h.1, (h1 _).trans h.2.1, (h1 _).trans h.2.2.1, (h1 _).trans h.2.2.2.1, fun k hk => (h2 k).trans (h.2.2.2.2 k hk)⟩
theorem scr_wit {y k : Nat} (h : scr y k = false) : y ≠ 31 ∧ y ≠ 32 ∧ y ≠ 33 ∧ y ≠ 34 := by
  refine ⟨?_, ?_, ?_, ?_⟩ <;> (intro e; rw [e] at h; revert h; unfold scr; simp)
/-- the suspect's place, on both sides; he isn't shown, or at i -/
theorem susp_no {ι : iS} {S : Nat} (hS : S ≤ 8) (κ : iS) (r2 : gI κ 112 3 = nI S) (hrow : ∀ k, k < S → gI κ 112 (99 + k) = gI ι 112 (99 + k)) (h : plc (fun k => gI ι 112 (99 + k)) 0 S 0 = -1) : m_X7_isHidden κ = some (1, κ) := by
  have e := m_plc (ι := κ) (S := S) (y := 0) r2 hS S 0 aF (by omega) (by unfold aF; omega)
  rw [plc_ext (g := fun k => gI ι 112 (99 + k)) S 0 (fun i h1 h2 => hrow i (by omega)), h] at e
  unfold m_X7_isHidden
  rw [show m_X7_placeOf 0 κ = some (-1, κ) from e]
  rfl
theorem susp_yes {ι : iS} {S i : Nat} (hS : S ≤ 8) (κ : iS) (r2 : gI κ 112 3 = nI S) (hrow : ∀ k, k < S → gI κ 112 (99 + k) = gI ι 112 (99 + k)) (hi : i < S) (h : plc (fun k => gI ι 112 (99 + k)) 0 S 0 = nI i) : m_X7_placeOf 0 κ = some (nI i, κ) ∧ m_X7_isHidden κ = some (0, κ) := by
  have e := m_plc (ι := κ) (S := S) (y := 0) r2 hS S 0 aF (by omega) (by unfold aF; omega)
  rw [plc_ext (g := fun k => gI ι 112 (99 + k)) S 0 (fun i h1 h2 => hrow i (by omega)), h] at e
  have e : m_X7_placeOf 0 κ = some (nI i, κ) := e
  refine ⟨e, ?_⟩
  unfold m_X7_isHidden
  rw [e, Option.bind_some]
  dsimp only
  rw [if_neg (nI_nm1 (by omega))]
theorem m_susp {ι κ : iS} {T S z c i : Nat} {F : List (Nat × Nat)} (hS : S ≤ 8) (hz : z ≤ 5) (hc : c ≤ 120) (r2 : gI ι 112 3 = nI S) (hmid : ∀ g b k, k < S → mid (gI ι 112) T F g b k < 500) (hfeel : ∀ (g b : Int32) (κ : iS), gI κ 112 = gI ι 112 → ∃ κ', m_X7_feels g b κ = some κ' ∧ MR κ' S z (mid (gI ι 112) T F g b) ∧ FS κ κ') (hi : i < S) (hpl : plc (fun k => gI ι 112 (99 + k)) 0 S 0 = nI i) (hrow : gI κ 112 = gI ι 112) (way g b : Int32) : ∃ κ', m_X7_suspectBy way g b (nI c) κ = some (lN (pck (mid (gI ι 112) T F g b) (2 * z + 1) (c + z) S way i), κ') ∧ FS κ κ' ∧ MR κ' S z (mid (gI ι 112) T F g b) := by
  obtain ⟨κ', f1, f2, f3⟩ := hfeel g b κ hrow
  refine ⟨κ', ?_, f3, f2⟩
  unfold m_X7_suspectBy
  rw [f1, Option.bind_some, (susp_yes (ι := ι) hS κ' f2.1 (fun k _ => by rw [f3.row, hrow]) hi hpl).1, Option.bind_some]
  dsimp only
  rw [m_pck f2 hS hz hc (fun k hk => hmid g b k hk) hi way]
  rfl
theorem ok_odds {ι : iS} (h : Inv ι) (x1 x2 x3 x4 : Int32) : Ok64 (w_odds x1 x2 x3 x4 ι) (m_X7_odds x1 x2 x3 x4) := by
  obtain ⟨⟨T, P, S, F, h0, hcod, hmt⟩, -⟩ := id h
  obtain ⟨z, c, hz, hc, r4, r5, hmid, hlook, hfeel⟩ := looks h0 hcod hmt
  obtain ⟨⟨hT, hP, hS⟩, ⟨⟨b0, r0⟩, ⟨b1, r1⟩, ⟨b2, r2⟩⟩, hset, hval, htold, hord, hinj, hmock⟩ := id h0
  have b2 : gI ι 2 2 = nI S := b2
  obtain ⟨s3, p, hp, hp1, hp2⟩ := hset 3 (by omega)
  have hp1 : 1 ≤ p := hp1
  have hp2 : p ≤ 99 := hp2
  have s3 : gI ι 6 3 = gI ι 112 7 := s3
  by_cases hw : x1 = 0 ∨ x1 = 1
  · have hw' := not_or.mp (half_r.mp hw)
    by_cases hx : x4 = 0 ∨ x4 = 1
    · have hx' := not_or.mp (half_r.mp hx)
      have pl := (plc_both (ι := ι) (κ := ι) (S := S) (P := P) 0 hS b2 r2 (fun _ _ => rfl) (fun k hk => (hord k hk).1)).1
      rcases plc_cs (f := fun k => gI ι 112 (99 + k)) (p := 0) S 0 with ⟨q1, -⟩ | ⟨i, -, q2, q3, -⟩
      · refine ok_refuse64 h (e := 2) (c := 2) (v := 0) (by omega) (by decide) ?_ ?_
        · unfold w_odds m_X6_odds
          rw [d_nr_y hw'.1 hw'.2, Option.bind_some]
          dsimp only
          rw [d_nr_y hx'.1 hx'.2, Option.bind_some]
          dsimp only
          rw [pl, Option.bind_some]
          dsimp only
          rw [if_pos q1, d_ns_0]
          rfl
        · unfold m_X7_odds
          rw [m_half_y hw, Option.bind_some]
          dsimp only
          rw [if_neg i10, m_half_y hx, Option.bind_some]
          dsimp only
          rw [if_neg i10, m_bad_0, Option.bind_some]
          · dsimp only
            rw [if_pos rfl, susp_no (ι := ι) hS (pI (pI ι 30 2 (gI ι 30 2 + 1)) 109 0 0) r2 (fun _ _ => rfl) q1, Option.bind_some]
            dsimp only
            rw [show m_X7_bad 1 2 2 = m_X7_bad 1 2 (nI 2) from rfl, m_bad_1 (e := 2) (hc := by decide) (he := by omega)]
            · rfl
            · rfl
          · rfl
      · have hi : i < S := by omega
        obtain ⟨κ1, l1, l2, l3, l4, l5⟩ := hlook 31 1 x2 ι (by omega) (Or.inr rfl) (fun _ _ _ => rfl)
        obtain ⟨κ2, u1, u2, u3, u4, u5⟩ := hlook 33 0 x2 κ1 (by omega) (Or.inl rfl) (fun y i q => l3 y i (by omega) (by omega))
        have l2' : WR κ2 31 S z c (mid (gI ι 112) T F 1 x2) := WR_cg l2 (fun i => u3 _ _ (by omega) (by omega)) (fun i => u3 _ _ (by omega) (by omega))
        obtain ⟨A, hA⟩ : ∃ A, A = pck (mid (gI ι 112) T F 1 x2) (2 * z + 1) (c + z) S x1 i := ⟨_, rfl⟩
        obtain ⟨B, hB⟩ : ∃ B, B = pck (mid (gI ι 112) T F 0 x2) (2 * z + 1) (c + z) S x1 i := ⟨_, rfl⟩
        have hp9 := pow_le (w := 2 * z + 1) (S := S) (by omega) hS
        have hAl : A ≤ (2 * z + 1) ^ S := by rw [hA]; exact pck_le (by omega) hi
        have hBl : B ≤ (2 * z + 1) ^ S := by rw [hB]; exact pck_le (by omega) hi
        obtain ⟨N, hN⟩ : ∃ N, N = (2 * z + 1) ^ S := ⟨_, rfl⟩
        rw [← hN] at hAl hBl hp9
        obtain ⟨A', hA'⟩ : ∃ A', A' = if x3 = 0 then N - A else A := ⟨_, rfl⟩
        obtain ⟨B', hB'⟩ : ∃ B', B' = if x3 = 0 then N - B else B := ⟨_, rfl⟩
        have hA2 : A' ≤ 214358881 := by rw [hA']; by_cases q : x3 = 0 <;> simp only [if_pos, if_neg, q, if_true, if_false] <;> omega
        have hB2 : B' ≤ 214358881 := by rw [hB']; by_cases q : x3 = 0 <;> simp only [if_pos, if_neg, q, if_true, if_false] <;> omega
        have hb1 : p * A' ≤ 99 * 214358881 := Nat.mul_le_mul hp2 hA2
        have hb2 : (100 - p) * B' ≤ 99 * 214358881 := Nat.mul_le_mul (by omega) hB2
        obtain ⟨V, hV⟩ : ∃ V, V = fr (p * A') (p * A' + (100 - p) * B') x4 := ⟨_, rfl⟩
        have e63 : gI κ2 6 3 = nI p := by rw [u3 _ _ (by omega) (by omega), l3 _ _ (by omega) (by omega), s3]; exact hp
        have h100 : (100 : Int64) - lN p = lN (100 - p) := lN_sub (a := 100) (b := p) (by omega)
        have hW : w_odds x1 x2 x3 x4 ι = some (0, pJ κ2 125 0 (lN V)) := by
          unfold w_odds m_X6_odds
          rw [d_nr_y hw'.1 hw'.2, Option.bind_some]
          dsimp only
          rw [d_nr_y hx'.1 hx'.2, Option.bind_some]
          dsimp only
          rw [pl, Option.bind_some]
          dsimp only
          rw [q3, if_neg (nI_nm1 (by omega)), d_ns_1, Option.bind_some]
          dsimp only
          rw [l1, Option.bind_some, u1, Option.bind_some, d_pck l2' hS hz hc (fun k hk => hmid 1 x2 k hk) hi x1, Option.bind_some]
          dsimp only
          rw [d_pck u2 hS hz hc (fun k hk => hmid 0 x2 k hk) hi x1, Option.bind_some]
          dsimp only
          rw [d_all l2' hS hz, ← hA, ← hB, ← hN]
          simp only [Option.bind_some]
          rw [d_all u2 hS hz, ← hN]
          simp only [Option.bind_some, e63, nI_l (show p < 2 ^ 31 by omega), h100]
          by_cases q : x3 = 0
          · rw [if_pos q] at hA' hB' ⊢
            rw [lN_sub hAl, lN_sub hBl, lN_mul, lN_mul, lN_add, ← hA', ← hB', d_frac (by omega) (by omega), ← hV]
            rfl
          · rw [if_neg q] at hA' hB' ⊢
            rw [lN_mul, lN_mul, lN_add, ← hA', ← hB', d_frac (by omega) (by omega), ← hV]
            rfl
        obtain ⟨μ, hμ⟩ : ∃ μ, μ = pI (pJ κ2 125 0 (lN V)) 109 0 0 := ⟨_, rfl⟩
        have krow : gI μ 112 = gI ι 112 := by
          funext k
          rw [hμ, gI_p2 _ _ (by omega), gI_pJ, u3 _ _ (by omega) (by omega), l3 _ _ (by omega) (by omega)]
        have sm1 : Sm ι μ := by
          rw [hμ]
          refine Sm.pI (Sm.pJ ⟨fun y k q => ?_, fun k => by rw [u5, l5]⟩) scr_t
          have := scr_wit q
          rw [u3 _ _ (by omega) (by omega), l3 _ _ (by omega) (by omega)]
        obtain ⟨μ1, f1, f2, f2m⟩ := m_susp (c := c) hS hz hc r2 hmid hfeel hi q3 krow x1 1 x2
        obtain ⟨μ2, g1, g2, g2m⟩ := m_susp (c := c) hS hz hc r2 hmid hfeel hi q3 (f2.row.trans krow) x1 0 x2
        have hz0 : gI μ 109 0 = 0 := by rw [hμ, gI_p1]
        have e7 : gI μ2 112 7 = nI p := by rw [g2.row, f2.row, krow]; exact hp
        refine ok_ask64 h (ι1 := κ2) (ι2 := μ2) (v := lN V) hW ?_ ?_ ?_ (Sm.tr (Sm.tr sm1 f2.sm) g2.sm)
        · unfold m_X7_odds
          rw [← hμ, m_half_y hw, Option.bind_some]
          dsimp only
          rw [if_neg i10, m_half_y hx, Option.bind_some]
          dsimp only
          rw [if_neg i10, m_bad_0 hz0, Option.bind_some]
          dsimp only
          rw [if_pos rfl, (susp_yes (ι := ι) hS μ (by rw [krow]; exact r2) (fun k _ => by rw [krow]) hi q3).2, Option.bind_some]
          dsimp only
          rw [m_bad_0 hz0, Option.bind_some]
          dsimp only
          rw [if_pos rfl, show gI μ 112 5 = nI c by rw [krow]; exact r5, f1, Option.bind_some]
          dsimp only
          rw [show gI μ1 112 5 = nI c by rw [f2.row, krow]; exact r5, g1, Option.bind_some]
          dsimp only
          rw [m_ways g2m hS hz, ← hA, ← hB, ← hN]
          simp only [Option.bind_some]
          rw [m_ways g2m hS hz, ← hN]
          simp only [Option.bind_some, e7, show (100 : Int32) - nI p = nI (100 - p) from pk_sub (a := 100) (b := p) (by omega), nI_l (show p < 2 ^ 31 by omega), nI_l (show 100 - p < 2 ^ 31 by omega)]
          by_cases q : x3 = 0
          · rw [if_pos q] at hA' hB' ⊢
            rw [lN_sub hAl, lN_sub hBl, lN_mul, lN_mul, lN_add, ← hA', ← hB', m_frac (by omega) (by omega), ← hV]
            rfl
          · rw [if_neg q] at hA' hB' ⊢
            rw [lN_mul, lN_mul, lN_add, ← hA', ← hB', m_frac (by omega) (by omega), ← hV]
            rfl
        · rw [g2.1 _ _ (by omega), f2.1 _ _ (by omega), hz0]
        · rw [g2.2.2 _ _ (by omega), f2.2.2 _ _ (by omega), hμ]
          rfl
    · have hx' : x4 < 0 ∨ 1 < x4 := Classical.byContradiction fun q => hx (half_r.mpr q)
      refine ok_refuse64 h (e := 1) (c := 1) (v := 0) (by omega) i10 ?_ ?_
      · unfold w_odds m_X6_odds
        rw [d_nr_y hw'.1 hw'.2, Option.bind_some]
        dsimp only
        rw [d_nr_n hx']
        rfl
      · unfold m_X7_odds
        rw [m_half_y hw, Option.bind_some]
        dsimp only
        rw [if_neg i10, m_half_n hx, Option.bind_some]
        dsimp only
        rw [if_pos rfl, show m_X7_bad 1 1 1 = m_X7_bad 1 1 (nI 1) from rfl, m_bad_1 (e := 1) (hc := i10) (he := by omega)]
        · rfl
        · rfl
  · have hw' : x1 < 0 ∨ 1 < x1 := Classical.byContradiction fun q => hw (half_r.mpr q)
    refine ok_refuse64 h (e := 1) (c := 1) (v := 0) (by omega) i10 ?_ ?_
    · unfold w_odds m_X6_odds
      rw [d_nr_n hw']
      rfl
    · unfold m_X7_odds
      rw [m_half_n hw, Option.bind_some]
      dsimp only
      rw [if_pos rfl, show m_X7_bad 1 1 1 = m_X7_bad 1 1 (nI 1) from rfl, m_bad_1 (e := 1) (hc := i10) (he := by omega)]
      · rfl
      · rfl
