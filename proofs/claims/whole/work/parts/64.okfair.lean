theorem Kd_ex {P : Nat} : ∀ left a set, set < 2 ^ a → a + left ≤ P → ∃ t, Kd P a left set t := by
  intro left
  induction left with
  | zero => intro a set hs h; exact ⟨set, (Kd_0 (by omega) hs).mpr rfl⟩
  | succ left ih =>
    intro a set hs h
    obtain ⟨t, ht⟩ := ih (a + 1) (set + 2 ^ a) (by rw [Nat.pow_succ]; omega) (by omega)
    exact ⟨t, (Kd_s (by omega) hs).mpr (Or.inl ht)⟩
theorem scr_ch {y k : Nat} (h : scr y k = false) : y ≠ 35 ∧ y ≠ 36 := by
  refine ⟨?_, ?_⟩ <;> (intro e; rw [e] at h; revert h; unfold scr; simp)
theorem ok_fairest {ι : iS} (h : Inv ι) (x1 x2 : Int32) : Ok64 (w_fairest x1 x2 ι) (m_X7_fairest x1 x2) := by
  obtain ⟨⟨T, P, S, F, h0, hcod, hmt⟩, -⟩ := id h
  obtain ⟨⟨hT, hP, hS⟩, ⟨⟨b0, r0⟩, ⟨b1, r1⟩, ⟨b2, r2⟩⟩, hset, hval, htold, hord, hinj, hmock⟩ := id h0
  have b1 : gI ι 2 1 = nI P := b1
  by_cases hx : x1 < 2 ∨ 8 < x1
  · refine ok_refuse64 h (e := 1) (c := 1) (v := 0) (by omega) i10 ?_ ?_
    · unfold w_fairest m_X6_fairest
      rw [d_nr_n hx]
      rfl
    · unfold m_X7_fairest
      rw [m_in_n hx, Option.bind_some]
      dsimp only
      rw [if_pos rfl, show m_X7_bad 1 1 1 = m_X7_bad 1 1 (nI 1) from rfl, m_bad_1 (e := 1) (hc := i10) (he := by omega)]
      · rfl
      · rfl
  obtain ⟨hx1, hx2⟩ := not_or.mp hx
  by_cases hy : x2 < 0 ∨ 2 < x2
  · refine ok_refuse64 h (e := 1) (c := 1) (v := 0) (by omega) i10 ?_ ?_
    · unfold w_fairest m_X6_fairest
      rw [d_nr_y hx1 hx2, Option.bind_some]
      dsimp only
      rw [d_nr_n hy]
      rfl
    · unfold m_X7_fairest
      rw [m_in_y hx1 hx2, Option.bind_some]
      dsimp only
      rw [if_neg i10, m_in_n hy, Option.bind_some]
      dsimp only
      rw [if_pos rfl, show m_X7_bad 1 1 1 = m_X7_bad 1 1 (nI 1) from rfl, m_bad_1 (e := 1) (hc := i10) (he := by omega)]
      · rfl
      · rfl
  obtain ⟨hy1, hy2⟩ := not_or.mp hy
  obtain ⟨N, hN8, rfl⟩ := nI_of2 (x := x1) (n := 8) (M := 8) rfl (fun q => hx1 (by
    rw [Int32.lt_iff_toInt_lt] at q ⊢
    have e1 : (0 : Int32).toInt = 0 := by decide
    have e2 : (2 : Int32).toInt = 2 := by decide
    omega)) (Int32.not_lt.mp hx2)
  have hN2 : 2 ≤ N := by
    rcases Nat.lt_or_ge N 2 with q | q
    · exact absurd (show nI N < 2 from nI_lt (a := N) (b := 2) q (by omega)) hx1
    · exact q
  obtain ⟨m, hm⟩ : ∃ m : Nat → Nat, ∀ k, k < P → mt (gI ι 112) T F k 0 = nI (m k) ∧ m k ≤ 99 := by
    refine ⟨fun k => (mt (gI ι 112) T F k 0).toNatClampNeg, fun k _ => ?_⟩
    obtain ⟨a, ha, ha9⟩ := mt_rng (gI ι 112) T F k 0
    dsimp only
    rw [ha, nI_clamp (by omega)]
    exact ⟨rfl, ha9⟩
  have hm9 : ∀ k, k < P → m k ≤ 99 := fun k hk => (hm k hk).2
  have model : ∀ (κ : iS), gI κ 112 = gI ι 112 → ∃ κ' y3' y4' y6', l_X7_fairest_51 aF (nI N) x2 (-1) 0 1 0 κ = finF x2 y3' y4' y6' κ' ∧ JT κ κ' ∧ Bm m P (fun t => Kd P 1 (N - 1) 0 t) y3' y4' y6' := fun κ hr => by
    have hpw : 2 ^ (P - 1) ≤ 2 ^ 15 := Nat.pow_le_pow_right (by omega) (by omega)
    exact m_fair_loop (r := gI ι 112) (m := m) (y2 := x2) hT.2 hP ⟨hN2, hN8⟩ r0 r1 hcod hm (2 ^ (P - 1)) 0 aF κ (-1) 0 1 (by omega) (by unfold aF; omega) hr (Or.inl ⟨rfl, fun t ht => by omega⟩)
  have mstart : ∀ (ι0 κ : iS), κ = pI ι0 109 0 0 → gI κ 109 0 = 0 → m_X7_fairest (nI N) x2 ι0 = l_X7_fairest_51 aF (nI N) x2 (-1) 0 1 0 κ := fun ι0 κ hκ hz => by
    unfold m_X7_fairest
    rw [← hκ, m_in_y hx1 hx2, Option.bind_some]
    dsimp only
    rw [if_neg i10, m_in_y hy1 hy2, Option.bind_some]
    dsimp only
    rw [if_neg i10, m_bad_0 hz, Option.bind_some]
    dsimp only
    rw [if_pos rfl]
  by_cases hNP : N ≤ P
  · obtain ⟨κ, c1, c2, c3, c4, c5⟩ := d_choose (m := m) (ι := ι) (n := N - 1) hP hm9 b1 (fun k hk => ((hmt k hk).1 : gI ι 9 k = _).trans (hm k hk).1) (by omega)
    obtain ⟨t0, ht0⟩ := Kd_ex (P := P) (N - 1) 1 0 (by omega) (by omega)
    rcases c2 with ⟨-, q⟩ | ⟨f3, s, hs, hs6, f0, f1, f2⟩
    · exact absurd ht0 (q t0)
    · obtain ⟨V, hV⟩ : ∃ V : Int64, V = if x2 = 0 then (nI s).toInt64 else lN (fr (fA m P s) (fB m P s) (x2 - 1)) := ⟨_, rfl⟩
      have hb := m_bounds2 hP hm9 s s
      have hW : w_fairest (nI N) x2 ι = some (0, pJ κ 125 0 V) := by
        unfold w_fairest m_X6_fairest
        rw [d_nr_y hx1 hx2, Option.bind_some]
        dsimp only
        rw [d_nr_y hy1 hy2, Option.bind_some]
        dsimp only
        rw [b1, if_pos (nI_le hNP (by omega)), show nI N - 1 = nI (N - 1) from pk_sub (a := N) (b := 1) (by omega), c1, Option.bind_some, f0, f1, f2, lN_mul, show tot m P s * tot m P s = fA m P s from rfl, d_frac (by omega) (by omega), hV]
        by_cases q : x2 = 0
        · rw [if_pos q, if_pos q]; rfl
        · rw [if_neg q, if_neg q]; rfl
      obtain ⟨μ, hμ⟩ : ∃ μ, μ = pI (pJ κ 125 0 V) 109 0 0 := ⟨_, rfl⟩
      have krow : gI μ 112 = gI ι 112 := by
        funext k
        rw [hμ, gI_p2 _ _ (by omega), gI_pJ, c3 _ _ (by omega) (by omega)]
      have sm1 : Sm ι μ := by
        rw [hμ]
        refine Sm.pI (Sm.pJ ⟨fun y k q => ?_, fun k => by rw [c5]⟩) scr_t
        have := scr_ch q
        rw [c3 _ _ this.1 this.2]
      have hz0 : gI μ 109 0 = 0 := by rw [hμ, gI_p1]
      obtain ⟨μ1, y3, y4, y6, e1, e2, e3⟩ := model μ krow
      have hfin : finF x2 y3 y4 y6 μ1 = some (V, μ1) := by
        rcases e3 with ⟨-, q⟩ | ⟨s', hs', hs6', g3, g4, g6⟩
        · exact absurd ht0 (q t0)
        · obtain rfl : s' = s := fst_un fB_pos hs' hs
          unfold finF
          rw [g3, g4, g6, if_neg (nI_nm1 (by omega)), m_frac (by omega) (by omega), hV]
          by_cases q : x2 = 0
          · rw [if_pos q, if_pos q]
          · rw [if_neg q, if_neg q]; rfl
      refine ok_ask64 h (ι1 := κ) (ι2 := μ1) (v := V) hW ?_ ?_ ?_ (Sm.tr sm1 e2.sm)
      · rw [mstart _ μ hμ hz0, e1, hfin]
      · rw [e2.1]; exact hz0
      · rw [e2.2.2 _ _ (by omega) (by omega), hμ]
        rfl
  · have hW : w_fairest (nI N) x2 ι = some (0, pJ ι 125 0 (-1)) := by
      unfold w_fairest m_X6_fairest
      rw [d_nr_y hx1 hx2, Option.bind_some]
      dsimp only
      rw [d_nr_y hy1 hy2, Option.bind_some]
      dsimp only
      rw [b1, if_neg (nI_ge (by omega) (by omega))]
      rfl
    obtain ⟨μ, hμ⟩ : ∃ μ, μ = pI (pJ ι 125 0 (-1)) 109 0 0 := ⟨_, rfl⟩
    have krow : gI μ 112 = gI ι 112 := by
      funext k
      rw [hμ, gI_p2 _ _ (by omega), gI_pJ]
    have hz0 : gI μ 109 0 = 0 := by rw [hμ, gI_p1]
    obtain ⟨μ1, y3, y4, y6, e1, e2, e3⟩ := model μ krow
    have hfin : finF x2 y3 y4 y6 μ1 = some (-1, μ1) := by
      rcases e3 with ⟨q, -⟩ | ⟨s', hs', -⟩
      · unfold finF
        rw [if_pos q]
      · exact absurd hs'.1 (Kd_n (by omega) (by omega))
    refine ok_ask64 h (ι1 := ι) (ι2 := μ1) (v := -1) hW ?_ ?_ ?_ (Sm.tr (by rw [hμ]; exact (Sm.rf ι).pJ.pI scr_t) e2.sm)
    · rw [mstart _ μ hμ hz0, e1, hfin]
    · rw [e2.1]; exact hz0
    · rw [e2.2.2 _ _ (by omega) (by omega), hμ]
      rfl
