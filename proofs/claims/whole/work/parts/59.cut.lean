theorem ok_nudged {ι : iS} (h : Inv ι) (x1 : Int32) : Ok32 (w_nudged x1 ι) (m_X7_nudged x1) := by
  obtain ⟨⟨T, P, S, F, h0, hcod, hmt⟩, -⟩ := id h
  obtain ⟨z, c, hz, hc, r4, r5, hmid, hlook, hfeel⟩ := looks h0 hcod hmt
  obtain ⟨⟨hT, hP, hS⟩, ⟨⟨b0, r0⟩, ⟨b1, r1⟩, ⟨b2, r2⟩⟩, hset, hval, htold, hord, hinj, hmock⟩ := id h0
  have b2 : gI ι 2 2 = nI S := b2
  by_cases hw : x1 = 0 ∨ x1 = 1
  · have hw' := not_or.mp (half_r.mp hw)
    have pl := (plc_both (ι := ι) (κ := ι) (S := S) (P := P) 0 hS b2 r2 (fun _ _ => rfl) (fun k hk => (hord k hk).1)).1
    rcases plc_cs (f := fun k => gI ι 112 (99 + k)) (p := 0) S 0 with ⟨q1, -⟩ | ⟨i, -, q2, q3, -⟩
    · refine ok_refuse h (e := 2) (c := 2) (v := 0) (by omega) (by decide) ?_ ?_
      · unfold w_nudged m_X6_nudged
        rw [d_nr_y hw'.1 hw'.2, Option.bind_some]
        dsimp only
        rw [pl, Option.bind_some]
        dsimp only
        rw [if_pos q1, d_ns_0]
        rfl
      · unfold m_X7_nudged
        rw [m_half_y hw, Option.bind_some]
        dsimp only
        rw [if_neg i10, m_bad_0, Option.bind_some]
        · dsimp only
          rw [if_pos rfl, susp_no (ι := ι) hS (pI (pI ι 30 2 (gI ι 30 2 + 1)) 109 0 0) r2 (fun _ _ => rfl) q1, Option.bind_some]
          dsimp only
          rw [show m_X7_bad 1 2 2 = m_X7_bad 1 2 (nI 2) from rfl, m_bad_1 (e := 2) (hc := by decide) (he := by omega)]
          · rfl
          · rfl
        · rfl
    · have hi : i < S := by omega
      obtain ⟨κ1, l1, l2, l3, l4, l5⟩ := hlook 33 0 1 ι (by omega) (Or.inl rfl) (fun _ _ _ => rfl)
      obtain ⟨κ2, u1, u2, u3, u4, u5⟩ := hlook 33 0 0 κ1 (by omega) (Or.inl rfl) (fun y i q => l3 y i (by omega) (by omega))
      have hp9 := pow_le (w := 2 * z + 1) (S := S) (by omega) hS
      have hpos : 0 < (2 * z + 1) ^ S := Nat.pow_pos (by omega)
      obtain ⟨V, hV⟩ : ∃ V : Int32, V = (((100 : Int64) * (lN (pck (mid (gI ι 112) T F 0 0) (2 * z + 1) (c + z) S x1 i) - lN (pck (mid (gI ι 112) T F 0 1) (2 * z + 1) (c + z) S x1 i))) / lN ((2 * z + 1) ^ S)).toInt32 := ⟨_, rfl⟩
      have hW : w_nudged x1 ι = some (0, pJ κ2 125 0 V.toInt64) := by
        unfold w_nudged m_X6_nudged
        rw [d_nr_y hw'.1 hw'.2, Option.bind_some]
        dsimp only
        rw [pl, Option.bind_some]
        dsimp only
        rw [q3, if_neg (nI_nm1 (by omega)), d_ns_1, Option.bind_some]
        dsimp only
        rw [l1, Option.bind_some, d_pck l2 hS hz hc (fun k hk => hmid 0 1 k hk) hi x1, Option.bind_some]
        dsimp only
        rw [u1, Option.bind_some, d_pck u2 hS hz hc (fun k hk => hmid 0 0 k hk) hi x1, Option.bind_some]
        dsimp only
        rw [d_all u2 hS hz, Option.bind_some]
        dsimp only
        rw [if_neg (fun q => by have := (lc0 (b := (2 * z + 1) ^ S) (by omega)).mp q; omega), if_pos (ln0 (b := (2 * z + 1) ^ S) (by omega) (by omega)), Option.bind_some, ← hV]
      obtain ⟨μ, hμ⟩ : ∃ μ, μ = pI (pJ κ2 125 0 V.toInt64) 109 0 0 := ⟨_, rfl⟩
      have krow : gI μ 112 = gI ι 112 := by
        funext k
        rw [hμ, gI_p2 _ _ (by omega), gI_pJ, u3 _ _ (by omega) (by omega), l3 _ _ (by omega) (by omega)]
      have sm1 : Sm ι μ := by
        rw [hμ]
        refine Sm.pI (Sm.pJ ⟨fun y k q => ?_, fun k => by rw [u5, l5]⟩) scr_t
        have := scr_wit q
        rw [u3 _ _ (by omega) (by omega), l3 _ _ (by omega) (by omega)]
      obtain ⟨μ1, f1, f2, f2m⟩ := m_susp (c := c) hS hz hc r2 hmid hfeel hi q3 krow x1 0 0
      obtain ⟨μ2, g1, g2, g2m⟩ := m_susp (c := c) hS hz hc r2 hmid hfeel hi q3 (f2.row.trans krow) x1 0 1
      have hz0 : gI μ 109 0 = 0 := by rw [hμ, gI_p1]
      refine ok_ask2 h (ι1 := κ2) (ι2 := μ2) (v := V) hW ?_ ?_ ?_ (Sm.tr (Sm.tr sm1 f2.sm) g2.sm)
      · unfold m_X7_nudged
        rw [← hμ, m_half_y hw, Option.bind_some]
        dsimp only
        rw [if_neg i10, m_bad_0 hz0, Option.bind_some]
        dsimp only
        rw [if_pos rfl, (susp_yes (ι := ι) hS μ (by rw [krow]; exact r2) (fun k _ => by rw [krow]) hi q3).2, Option.bind_some]
        dsimp only
        rw [m_bad_0 hz0, Option.bind_some]
        dsimp only
        rw [if_pos rfl, show gI μ 112 5 = nI c by rw [krow]; exact r5, f1, Option.bind_some]
        dsimp only
        rw [show gI μ1 112 5 = nI c by rw [f2.row, krow]; exact r5, g1, Option.bind_some]
        dsimp only
        rw [m_ways g2m hS hz, Option.bind_some]
        dsimp only
        rw [if_pos (ln0 (b := (2 * z + 1) ^ S) (by omega) (by omega)), ← hV]
      · rw [g2.1 _ _ (by omega), f2.1 _ _ (by omega), hz0]
      · rw [g2.2.2 _ _ (by omega), f2.2.2 _ _ (by omega), hμ]
        rfl
  · have hw' : x1 < 0 ∨ 1 < x1 := Classical.byContradiction fun q => hw (half_r.mpr q)
    refine ok_refuse h (e := 1) (c := 1) (v := 0) (by omega) i10 ?_ ?_
    · unfold w_nudged m_X6_nudged
      rw [d_nr_n hw']
      rfl
    · unfold m_X7_nudged
      rw [m_half_n hw, Option.bind_some]
      dsimp only
      rw [if_pos rfl, show m_X7_bad 1 1 1 = m_X7_bad 1 1 (nI 1) from rfl, m_bad_1 (e := 1) (hc := i10) (he := by omega)]
      · rfl
      · rfl
/-- the best cut among the first j, and what it tells -/
def cb (tel : Nat → Int64) : Nat → Int32 × Int64
  | 0 => (0, 0)
  | j + 1 => if j = 0 ∨ (cb tel j).2 < tel j then (nI j, tel j) else cb tel j
theorem d_cut_loop {S z i : Nat} {m1 m0 : Nat → Nat} {way : Int32} (hS : S ≤ 8) (hz : z ≤ 5) (hm1 : ∀ k, k < S → m1 k < 500) (hm0 : ∀ k, k < S → m0 k < 500) (hi : i < S) : ∀ d j n κ c1 c0, j + d = 121 → d < n → WR κ 31 S z c1 m1 → WR κ 33 S z c0 m0 → ∃ κ', l_X6_cut_64 n way (nI i) (cb (fun j => lN (pck m1 (2 * z + 1) (j + z) S way i) - lN (pck m0 (2 * z + 1) (j + z) S way i)) j).1 (cb (fun j => lN (pck m1 (2 * z + 1) (j + z) S way i) - lN (pck m0 (2 * z + 1) (j + z) S way i)) j).2 (nI j) κ = some (.inr ((cb (fun j => lN (pck m1 (2 * z + 1) (j + z) S way i) - lN (pck m0 (2 * z + 1) (j + z) S way i)) 121).1, κ')) ∧ (∀ y k, y ≠ 31 → y ≠ 33 → gI κ' y k = gI κ y k) ∧ gJ κ' = gJ κ ∧ gP κ' = gP κ := by
  intro d
  induction d with
  | zero =>
    intro j n κ c1 c0 hj hn h1 h0
    obtain ⟨n, rfl⟩ : ∃ m, n = m + 1 := ⟨n - 1, by omega⟩
    obtain rfl : j = 121 := by omega
    refine ⟨κ, ?_, fun _ _ _ _ => rfl, rfl, rfl⟩
    rw [l_X6_cut_64, if_pos (show (120 : Int32) < nI 121 by decide)]
  | succ d ih =>
    intro j n κ c1 c0 hj hn h1 h0
    obtain ⟨n, rfl⟩ : ∃ m, n = m + 1 := ⟨n - 1, by omega⟩
    have w1 : WR (pI (pI κ 31 0 (nI j)) 33 0 (nI j)) 31 S z j m1 := ⟨by rw [gI_p2 _ _ (by omega), gI_p1], by rw [gI_p2 _ _ (by omega), gI_p2 _ _ (by omega)]; exact h1.2.1, by rw [gI_p2 _ _ (by omega), gI_p2 _ _ (by omega)]; exact h1.2.2.1, by rw [gI_p2 _ _ (by omega), gI_p2 _ _ (by omega)]; exact h1.2.2.2.1, fun k hk => by rw [gI_p2 _ _ (by omega), gI_p2 _ _ (by omega)]; exact h1.2.2.2.2 k hk⟩
    have w0 : WR (pI (pI κ 31 0 (nI j)) 33 0 (nI j)) 33 S z j m0 := ⟨by rw [gI_p1], by rw [gI_p2 _ _ (by omega), gI_p2 _ _ (by omega)]; exact h0.2.1, by rw [gI_p2 _ _ (by omega), gI_p2 _ _ (by omega)]; exact h0.2.2.1, by rw [gI_p2 _ _ (by omega), gI_p2 _ _ (by omega)]; exact h0.2.2.2.1, fun k hk => by rw [gI_p2 _ _ (by omega), gI_p2 _ _ (by omega)]; exact h0.2.2.2.2 k hk⟩
    obtain ⟨κ', e1, e2, e3, e4⟩ := ih (j + 1) n (pI (pI κ 31 0 (nI j)) 33 0 (nI j)) j j (by omega) (by omega) w1 w0
    refine ⟨κ', ?_, fun y k q1 q2 => by rw [e2 y k q1 q2, gI_p2 _ _ (by omega), gI_p2 _ _ (by omega)], e3, e4⟩
    rw [l_X6_cut_64, if_neg (show ¬ (120 : Int32) < nI j from nI_nlt (a := 120) (b := j) (by omega) (by omega)), d_pck w1 hS hz (by omega) hm1 hi way, Option.bind_some]
    dsimp only
    rw [d_pck w0 hS hz (by omega) hm0 hi way, Option.bind_some]
    dsimp only
    rw [nI_1]
    rw [cb] at e1
    by_cases hj0 : j = 0
    · rw [if_pos (Or.inl hj0)] at e1
      rw [if_pos (show nI j = 0 by rw [hj0]; rfl)]
      exact e1
    · rw [if_neg (nI_ne0 (by omega) (by omega))]
      by_cases hlt : (cb (fun j => lN (pck m1 (2 * z + 1) (j + z) S way i) - lN (pck m0 (2 * z + 1) (j + z) S way i)) j).2 < lN (pck m1 (2 * z + 1) (j + z) S way i) - lN (pck m0 (2 * z + 1) (j + z) S way i)
      · rw [if_pos (Or.inr hlt)] at e1
        rw [if_neg (fun q => Int64.not_lt.mpr ((lg_cmp_le _ _).mp q) hlt)]
        exact e1
      · rw [if_neg (fun q => q.elim hj0 hlt)] at e1
        rw [if_pos ((lg_cmp_le _ _).mpr (Int64.not_lt.mp hlt))]
        exact e1
theorem m_cut_loop {ι : iS} {T S z i : Nat} {F : List (Nat × Nat)} {way : Int32} (hS : S ≤ 8) (hz : z ≤ 5) (r2 : gI ι 112 3 = nI S) (hmid : ∀ g b k, k < S → mid (gI ι 112) T F g b k < 500) (hfeel : ∀ (g b : Int32) (κ : iS), gI κ 112 = gI ι 112 → ∃ κ', m_X7_feels g b κ = some κ' ∧ MR κ' S z (mid (gI ι 112) T F g b) ∧ FS κ κ') (hi : i < S) (hpl : plc (fun k => gI ι 112 (99 + k)) 0 S 0 = nI i) : ∀ d j n κ, j + d = 121 → d < n → gI κ 112 = gI ι 112 → ∃ κ', l_X7_cut_48 n way (cb (fun j => lN (pck (mid (gI ι 112) T F 1 1) (2 * z + 1) (j + z) S way i) - lN (pck (mid (gI ι 112) T F 0 1) (2 * z + 1) (j + z) S way i)) j).1 (cb (fun j => lN (pck (mid (gI ι 112) T F 1 1) (2 * z + 1) (j + z) S way i) - lN (pck (mid (gI ι 112) T F 0 1) (2 * z + 1) (j + z) S way i)) j).2 (nI j) κ = some ((cb (fun j => lN (pck (mid (gI ι 112) T F 1 1) (2 * z + 1) (j + z) S way i) - lN (pck (mid (gI ι 112) T F 0 1) (2 * z + 1) (j + z) S way i)) 121).1, κ') ∧ FS κ κ' := by
  intro d
  induction d with
  | zero =>
    intro j n κ hj hn hrow
    obtain ⟨n, rfl⟩ : ∃ m, n = m + 1 := ⟨n - 1, by omega⟩
    obtain rfl : j = 121 := by omega
    refine ⟨κ, ?_, FS.rf κ⟩
    rw [l_X7_cut_48, if_pos (show (120 : Int32) < nI 121 by decide)]
  | succ d ih =>
    intro j n κ hj hn hrow
    obtain ⟨n, rfl⟩ : ∃ m, n = m + 1 := ⟨n - 1, by omega⟩
    obtain ⟨μ1, f1, f2, f2m⟩ := m_susp (c := j) hS hz (by omega) r2 hmid hfeel hi hpl hrow way 1 1
    obtain ⟨μ2, g1, g2, g2m⟩ := m_susp (c := j) hS hz (by omega) r2 hmid hfeel hi hpl (f2.row.trans hrow) way 0 1
    obtain ⟨κ', e1, e2⟩ := ih (j + 1) n μ2 (by omega) (by omega) (g2.row.trans (f2.row.trans hrow))
    refine ⟨κ', ?_, (f2.tr g2).tr e2⟩
    rw [l_X7_cut_48, if_neg (show ¬ (120 : Int32) < nI j from nI_nlt (a := 120) (b := j) (by omega) (by omega)), f1, Option.bind_some]
    dsimp only
    rw [g1, Option.bind_some]
    dsimp only
    rw [nI_1]
    rw [cb] at e1
    by_cases hj0 : j = 0
    · rw [if_pos (Or.inl hj0)] at e1
      rw [if_pos (show nI j ≤ 0 by rw [hj0]; decide)]
      exact e1
    · rw [if_neg (nI_nle (by omega) (by omega))]
      by_cases hlt : (cb (fun j => lN (pck (mid (gI ι 112) T F 1 1) (2 * z + 1) (j + z) S way i) - lN (pck (mid (gI ι 112) T F 0 1) (2 * z + 1) (j + z) S way i)) j).2 < lN (pck (mid (gI ι 112) T F 1 1) (2 * z + 1) (j + z) S way i) - lN (pck (mid (gI ι 112) T F 0 1) (2 * z + 1) (j + z) S way i)
      · rw [if_pos (Or.inr hlt)] at e1
        rw [if_pos ((lg_cmp_gt _ _).mpr hlt)]
        exact e1
      · rw [if_neg (fun q => q.elim hj0 hlt)] at e1
        rw [if_neg (fun q => hlt ((lg_cmp_gt _ _).mp q))]
        exact e1
theorem ok_cut {ι : iS} (h : Inv ι) (x1 : Int32) : Ok32 (w_cut x1 ι) (m_X7_cut x1) := by
  obtain ⟨⟨T, P, S, F, h0, hcod, hmt⟩, -⟩ := id h
  obtain ⟨z, c, hz, hc, r4, r5, hmid, hlook, hfeel⟩ := looks h0 hcod hmt
  obtain ⟨⟨hT, hP, hS⟩, ⟨⟨b0, r0⟩, ⟨b1, r1⟩, ⟨b2, r2⟩⟩, hset, hval, htold, hord, hinj, hmock⟩ := id h0
  have b2 : gI ι 2 2 = nI S := b2
  by_cases hw : x1 = 0 ∨ x1 = 1
  · have hw' := not_or.mp (half_r.mp hw)
    have pl := (plc_both (ι := ι) (κ := ι) (S := S) (P := P) 0 hS b2 r2 (fun _ _ => rfl) (fun k hk => (hord k hk).1)).1
    rcases plc_cs (f := fun k => gI ι 112 (99 + k)) (p := 0) S 0 with ⟨q1, -⟩ | ⟨i, -, q2, q3, -⟩
    · refine ok_refuse h (e := 2) (c := 2) (v := 0) (by omega) (by decide) ?_ ?_
      · unfold w_cut m_X6_cut
        rw [d_nr_y hw'.1 hw'.2, Option.bind_some]
        dsimp only
        rw [pl, Option.bind_some]
        dsimp only
        rw [if_pos q1, d_ns_0]
        rfl
      · unfold m_X7_cut
        rw [m_half_y hw, Option.bind_some]
        dsimp only
        rw [if_neg i10, m_bad_0, Option.bind_some]
        · dsimp only
          rw [if_pos rfl, susp_no (ι := ι) hS (pI (pI ι 30 2 (gI ι 30 2 + 1)) 109 0 0) r2 (fun _ _ => rfl) q1, Option.bind_some]
          dsimp only
          rw [show m_X7_bad 1 2 2 = m_X7_bad 1 2 (nI 2) from rfl, m_bad_1 (e := 2) (hc := by decide) (he := by omega)]
          · rfl
          · rfl
        · rfl
    · have hi : i < S := by omega
      obtain ⟨κ1, l1, l2, l3, l4, l5⟩ := hlook 31 1 1 ι (by omega) (Or.inr rfl) (fun _ _ _ => rfl)
      obtain ⟨κ2, u1, u2, u3, u4, u5⟩ := hlook 33 0 1 κ1 (by omega) (Or.inl rfl) (fun y i q => l3 y i (by omega) (by omega))
      have l2' : WR κ2 31 S z c (mid (gI ι 112) T F 1 1) := WR_cg l2 (fun i => u3 _ _ (by omega) (by omega)) (fun i => u3 _ _ (by omega) (by omega))
      obtain ⟨κ3, v1, v2, v3, v4⟩ := d_cut_loop (way := x1) hS hz (fun k hk => hmid 1 1 k hk) (fun k hk => hmid 0 1 k hk) hi 121 0 aF κ2 c c (by omega) (by unfold aF; omega) l2' u2
      obtain ⟨V, hV⟩ : ∃ V : Int32, V = (cb (fun j => lN (pck (mid (gI ι 112) T F 1 1) (2 * z + 1) (j + z) S x1 i) - lN (pck (mid (gI ι 112) T F 0 1) (2 * z + 1) (j + z) S x1 i)) 121).1 := ⟨_, rfl⟩
      rw [← hV] at v1
      have hW : w_cut x1 ι = some (0, pJ κ3 125 0 V.toInt64) := by
        unfold w_cut m_X6_cut
        rw [d_nr_y hw'.1 hw'.2, Option.bind_some]
        dsimp only
        rw [pl, Option.bind_some]
        dsimp only
        rw [q3, if_neg (nI_nm1 (by omega)), d_ns_1, Option.bind_some]
        dsimp only
        rw [l1, Option.bind_some, u1, Option.bind_some, show l_X6_cut_64 aF x1 (nI i) 0 0 0 κ2 = some (.inr (V, κ3)) from v1]
        rfl
      obtain ⟨μ, hμ⟩ : ∃ μ, μ = pI (pJ κ3 125 0 V.toInt64) 109 0 0 := ⟨_, rfl⟩
      have krow : gI μ 112 = gI ι 112 := by
        funext k
        rw [hμ, gI_p2 _ _ (by omega), gI_pJ, v2 _ _ (by omega) (by omega), u3 _ _ (by omega) (by omega), l3 _ _ (by omega) (by omega)]
      have sm1 : Sm ι μ := by
        rw [hμ]
        refine Sm.pI (Sm.pJ ⟨fun y k q => ?_, fun k => by rw [v4, u5, l5]⟩) scr_t
        have := scr_wit q
        rw [v2 _ _ (by omega) (by omega), u3 _ _ (by omega) (by omega), l3 _ _ (by omega) (by omega)]
      obtain ⟨μ1, f1, f2⟩ := m_cut_loop (way := x1) hS hz r2 hmid hfeel hi q3 121 0 aF μ (by omega) (by unfold aF; omega) krow
      rw [← hV] at f1
      have hz0 : gI μ 109 0 = 0 := by rw [hμ, gI_p1]
      refine ok_ask2 h (ι1 := κ3) (ι2 := μ1) (v := V) hW ?_ ?_ ?_ (Sm.tr sm1 f2.sm)
      · unfold m_X7_cut
        rw [← hμ, m_half_y hw, Option.bind_some]
        dsimp only
        rw [if_neg i10, m_bad_0 hz0, Option.bind_some]
        dsimp only
        rw [if_pos rfl, (susp_yes (ι := ι) hS μ (by rw [krow]; exact r2) (fun k _ => by rw [krow]) hi q3).2, Option.bind_some]
        dsimp only
        rw [m_bad_0 hz0, Option.bind_some]
        dsimp only
        rw [if_pos rfl]
        exact f1
      · rw [f2.1 _ _ (by omega), hz0]
      · rw [f2.2.2 _ _ (by omega), hμ]
        rfl
  · have hw' : x1 < 0 ∨ 1 < x1 := Classical.byContradiction fun q => hw (half_r.mpr q)
    refine ok_refuse h (e := 1) (c := 1) (v := 0) (by omega) i10 ?_ ?_
    · unfold w_cut m_X6_cut
      rw [d_nr_n hw']
      rfl
    · unfold m_X7_cut
      rw [m_half_n hw, Option.bind_some]
      dsimp only
      rw [if_pos rfl, show m_X7_bad 1 1 1 = m_X7_bad 1 1 (nI 1) from rfl, m_bad_1 (e := 1) (hc := i10) (he := by omega)]
      · rfl
      · rfl
